def f_X11_isState (o0 : Nat) (x1 : Int32) (x2 : Int32) (S : PS) : Option (Int32 × PS) :=
  (f_X11_isThing o0 x1 S).bind fun q1 => (if q1.1 = 0 then some ((0 : Int32), q1.2) else (f_X11_thingOf o0 x1 (0 : Int32) q1.2).bind fun q2 => (f_X11_within x2 (0 : Int32) (q2.1 - (1 : Int32)) q2.2).bind fun q3 => (if q3.1 = 0 then some ((0 : Int32), q3.2) else some ((1 : Int32), q3.2)))
set_option maxHeartbeats 4000000 in
set_option maxRecDepth 100000 in
theorem k_X11_isState (l : Launch) (D : va_G) (cy : Nat → ClassId) (kc : Nat → Nat) (o0 : Nat) (x1 : Int32) (x2 : Int32) (S : PS) {qq : Int32 × PS} (h : f_X11_isState o0 x1 x2 S = some qq) (t_o0 : tD S o0 11) : KI l D cy kc yX11_isState cX11_isState 3 .boolean (rmK 3 85 0 0) [.ref o0, .int x1, .int x2] S qq.1 qq.2 := by
  refine K_body (Qc := QI D cy S qq.2 qq.1) (by decide) (Nat.le_of_ble_eq_true rfl) ?_
  intro p e s m below meth c A ls args E hr hlk hnm hA F hw hl
  have hx := E.1
  have hb := E.2.1
  have hl : lv_has ls 3 [(0, .ref o0), (1, .int x1), (2, .int x2)] := hl
  have hg : Gr S S := Gr.rf
  replace h : (f_X11_isState o0 x1 x2 S).bind some = some qq := by rw [h]; rfl
  rw [f_X11_isState] at h
  refine lv_aload_n hx hb dX11_isState_0 rfl (lv_at hl 0 rfl) ?_
  refine lv_iload_n hx hb dX11_isState_1 rfl (lv_at hl 1 rfl) ?_
  obtain ⟨q1, h_q1, h⟩ := bb h
  refine z_VI E F hw [.int x1] (k_X11_isThing l D cy kc o0 x1 S h_q1 t_o0) t_o0 cf11 mk_X11_isThing vk_X11_isThing ml_X11_329 ⟨by decide, by decide⟩ rfl hl.1 rfl (Nat.le_of_ble_eq_true rfl) dX11_isState_2 ⟨Nat.zero_le _, Nat.zero_le _⟩ (fun H locs hw hG => ?_)
  have t_o0 := hG.t t_o0
  have hg := hg.tr hG
  refine lv_if_eq (tgt := 28) hx hb dX11_isState_5 (by decide) (fun c5 => ?_) (fun c5 => ?_)
  · rw [if_pos c5] at h
    refine lv_iconst (v := 0) hx hb dX11_isState_28 (by decide) ?_
    obtain rfl := Option.some.inj h
    exact r_Z E hr hlk F hA hw hg rfl dX11_isState_29
  · rw [if_neg c5] at h
    refine lv_iload_n hx hb dX11_isState_8 rfl (lv_at hl 2 rfl) ?_
    refine lv_iconst (v := 0) hx hb dX11_isState_9 (by decide) ?_
    refine lv_aload_n hx hb dX11_isState_10 rfl (lv_at hl 0 rfl) ?_
    refine lv_iload_n hx hb dX11_isState_11 rfl (lv_at hl 1 rfl) ?_
    refine lv_iconst (v := 0) hx hb dX11_isState_12 (by decide) ?_
    obtain ⟨q2, h_q2, h⟩ := bb h
    refine z_VI E F hw [.int x1, .int (0 : Int32)] (k_X11_thingOf l D cy kc o0 x1 (0 : Int32) q1.2 h_q2 t_o0) t_o0 cf11 mk_X11_thingOf vk_X11_thingOf ml_X11_320 ⟨by decide, by decide⟩ rfl hl.1 rfl (Nat.le_of_ble_eq_true rfl) dX11_isState_13 ⟨Nat.zero_le _, Nat.zero_le _⟩ (fun H locs hw hG => ?_)
    have t_o0 := hG.t t_o0
    have hg := hg.tr hG
    refine lv_iconst (v := 1) hx hb dX11_isState_16 (by decide) ?_
    refine lv_isub hx hb dX11_isState_17 ?_
    obtain ⟨q3, h_q3, h⟩ := bb h
    refine z_SI E F hw [.int x2, .int (0 : Int32), .int (q2.1 - (1 : Int32))] (k_X11_within l D cy kc x2 (0 : Int32) (q2.1 - (1 : Int32)) q2.2 h_q3) mk_X11_within sk_X11_within ml_X11_303 ⟨by decide, by decide⟩ rfl hl.1 rfl (Nat.le_of_ble_eq_true rfl) dX11_isState_18 ⟨Nat.zero_le _, Nat.zero_le _⟩ (fun H locs hw hG => ?_)
    have t_o0 := hG.t t_o0
    have hg := hg.tr hG
    refine lv_if_eq (tgt := 28) hx hb dX11_isState_21 (by decide) (fun c4 => ?_) (fun c4 => ?_)
    · rw [if_pos c4] at h
      refine lv_iconst (v := 0) hx hb dX11_isState_28 (by decide) ?_
      obtain rfl := Option.some.inj h
      exact r_Z E hr hlk F hA hw hg rfl dX11_isState_29
    · rw [if_neg c4] at h
      refine lv_iconst (v := 1) hx hb dX11_isState_24 (by decide) ?_
      refine lv_goto (tgt := 29) hx hb dX11_isState_25 (by decide) ?_
      obtain rfl := Option.some.inj h
      exact r_Z E hr hlk F hA hw hg rfl dX11_isState_29
def f_X11_may (o0 : Nat) (x1 : Int32) (x2 : Int32) (x3 : Int32) (x4 : Int32) (S : PS) : Option (Int32 × PS) :=
  (f_X11_isSpring o0 x1 (pI S o0 0 (0 : Int32))).bind fun q1 => (if q1.1 = 0 then some ((-1 : Int32), q1.2) else (f_X11_isStands o0 x2 q1.2).bind fun q2 => (if q2.1 = 0 then some ((-1 : Int32), q2.2) else (f_X11_isState o0 x3 x4 q2.2).bind fun q3 => (if q3.1 = 0 then some ((-1 : Int32), q3.2) else (f_X11_mayBring o0 x1 x2 x3 x4 q3.2).bind fun q4 => (if q4.1 = 0 then some ((0 : Int32), q4.2) else some ((1 : Int32), q4.2)))))
set_option maxHeartbeats 4000000 in
set_option maxRecDepth 100000 in
theorem k_X11_may (l : Launch) (D : va_G) (cy : Nat → ClassId) (kc : Nat → Nat) (o0 : Nat) (x1 : Int32) (x2 : Int32) (x3 : Int32) (x4 : Int32) (S : PS) {qq : Int32 × PS} (h : f_X11_may o0 x1 x2 x3 x4 S = some qq) (t_o0 : tD S o0 11) : KI l D cy kc yX11_may cX11_may 5 .int (rmK 6 213 0 0) [.ref o0, .int x1, .int x2, .int x3, .int x4] S qq.1 qq.2 := by
  refine K_body (Qc := QI D cy S qq.2 qq.1) (by decide) (Nat.le_of_ble_eq_true rfl) ?_
  intro p e s m below meth c A ls args E hr hlk hnm hA F hw hl
  have hx := E.1
  have hb := E.2.1
  have hl : lv_has ls 5 [(0, .ref o0), (1, .int x1), (2, .int x2), (3, .int x3), (4, .int x4)] := hl
  have hg : Gr S S := Gr.rf
  replace h : (f_X11_may o0 x1 x2 x3 x4 S).bind some = some qq := by rw [h]; rfl
  rw [f_X11_may] at h
  refine lv_aload_n hx hb dX11_may_0 rfl (lv_at hl 0 rfl) ?_
  refine lv_iconst (v := 0) hx hb dX11_may_1 (by decide) ?_
  refine p_I E F hw t_o0 cf11 fk_X11_1 rfl rfl rfl dX11_may_2 rfl (fun H locs hw => ?_)
  refine lv_aload_n hx hb dX11_may_5 rfl (lv_at hl 0 rfl) ?_
  refine lv_iload_n hx hb dX11_may_6 rfl (lv_at hl 1 rfl) ?_
  obtain ⟨q1, h_q1, h⟩ := bb h
  refine z_VI E F hw [.int x1] (k_X11_isSpring l D cy kc o0 x1 (pI S o0 0 (0 : Int32)) h_q1 t_o0) t_o0 cf11 mk_X11_isSpring vk_X11_isSpring ml_X11_354 ⟨by decide, by decide⟩ rfl hl.1 rfl (Nat.le_of_ble_eq_true rfl) dX11_may_7 ⟨Nat.zero_le _, Nat.zero_le _⟩ (fun H locs hw hG => ?_)
  have t_o0 := hG.t t_o0
  have hg := hg.tr hG
  refine lv_if_eq (tgt := 51) hx hb dX11_may_10 (by decide) (fun c8 => ?_) (fun c8 => ?_)
  · rw [if_pos c8] at h
    refine lv_iconst (v := (-1)) hx hb dX11_may_51 (by decide) ?_
    obtain rfl := Option.some.inj h
    exact r_I E hr hlk F hA hw hg dX11_may_52
  · rw [if_neg c8] at h
    refine lv_aload_n hx hb dX11_may_13 rfl (lv_at hl 0 rfl) ?_
    refine lv_iload_n hx hb dX11_may_14 rfl (lv_at hl 2 rfl) ?_
    obtain ⟨q2, h_q2, h⟩ := bb h
    refine z_VI E F hw [.int x2] (k_X11_isStands l D cy kc o0 x2 q1.2 h_q2 t_o0) t_o0 cf11 mk_X11_isStands vk_X11_isStands ml_X11_341 ⟨by decide, by decide⟩ rfl hl.1 rfl (Nat.le_of_ble_eq_true rfl) dX11_may_15 ⟨Nat.zero_le _, Nat.zero_le _⟩ (fun H locs hw hG => ?_)
    have t_o0 := hG.t t_o0
    have hg := hg.tr hG
    refine lv_if_eq (tgt := 51) hx hb dX11_may_18 (by decide) (fun c7 => ?_) (fun c7 => ?_)
    · rw [if_pos c7] at h
      refine lv_iconst (v := (-1)) hx hb dX11_may_51 (by decide) ?_
      obtain rfl := Option.some.inj h
      exact r_I E hr hlk F hA hw hg dX11_may_52
    · rw [if_neg c7] at h
      refine lv_aload_n hx hb dX11_may_21 rfl (lv_at hl 0 rfl) ?_
      refine lv_iload_n hx hb dX11_may_22 rfl (lv_at hl 3 rfl) ?_
      refine lv_iload hx hb dX11_may_23 (lv_at hl 4 rfl) ?_
      obtain ⟨q3, h_q3, h⟩ := bb h
      refine z_VI E F hw [.int x3, .int x4] (k_X11_isState l D cy kc o0 x3 x4 q2.2 h_q3 t_o0) t_o0 cf11 mk_X11_isState vk_X11_isState ml_X11_357 ⟨by decide, by decide⟩ rfl hl.1 rfl (Nat.le_of_ble_eq_true rfl) dX11_may_25 ⟨Nat.zero_le _, Nat.zero_le _⟩ (fun H locs hw hG => ?_)
      have t_o0 := hG.t t_o0
      have hg := hg.tr hG
      refine lv_if_eq (tgt := 51) hx hb dX11_may_28 (by decide) (fun c6 => ?_) (fun c6 => ?_)
      · rw [if_pos c6] at h
        refine lv_iconst (v := (-1)) hx hb dX11_may_51 (by decide) ?_
        obtain rfl := Option.some.inj h
        exact r_I E hr hlk F hA hw hg dX11_may_52
      · rw [if_neg c6] at h
        refine lv_aload_n hx hb dX11_may_31 rfl (lv_at hl 0 rfl) ?_
        refine lv_iload_n hx hb dX11_may_32 rfl (lv_at hl 1 rfl) ?_
        refine lv_iload_n hx hb dX11_may_33 rfl (lv_at hl 2 rfl) ?_
        refine lv_iload_n hx hb dX11_may_34 rfl (lv_at hl 3 rfl) ?_
        refine lv_iload hx hb dX11_may_35 (lv_at hl 4 rfl) ?_
        obtain ⟨q4, h_q4, h⟩ := bb h
        refine z_VI E F hw [.int x1, .int x2, .int x3, .int x4] (k_X11_mayBring l D cy kc o0 x1 x2 x3 x4 q3.2 h_q4 t_o0) t_o0 cf11 mk_X11_mayBring vk_X11_mayBring ml_X11_361 ⟨by decide, by decide⟩ rfl hl.1 rfl (Nat.le_of_ble_eq_true rfl) dX11_may_37 ⟨Nat.zero_le _, Nat.zero_le _⟩ (fun H locs hw hG => ?_)
        have t_o0 := hG.t t_o0
        have hg := hg.tr hG
        refine lv_if_eq (tgt := 47) hx hb dX11_may_40 (by decide) (fun c5 => ?_) (fun c5 => ?_)
        · rw [if_pos c5] at h
          refine lv_iconst (v := 0) hx hb dX11_may_47 (by decide) ?_
          refine lv_goto (tgt := 52) hx hb dX11_may_48 (by decide) ?_
          obtain rfl := Option.some.inj h
          exact r_I E hr hlk F hA hw hg dX11_may_52
        · rw [if_neg c5] at h
          refine lv_iconst (v := 1) hx hb dX11_may_43 (by decide) ?_
          refine lv_goto (tgt := 52) hx hb dX11_may_44 (by decide) ?_
          obtain rfl := Option.some.inj h
          exact r_I E hr hlk F hA hw hg dX11_may_52
def f_X11_costOf_41b5 (o0 : Nat) (x1 : Int32) (x2 : Int32) (z4 : Int32) (y0 : Int32) (y1 : Int32) (S3 : PS) : Option ((Int32 × Int32 × PS) ⊕ ((Int32 × PS) ⊕ (Int32 × PS))) :=
  some (.inl ((y0 + y1), z4 + 1, S3))
def f_X11_costOf_b5 (o0 : Nat) (x1 : Int32) (x2 : Int32) (x3 : Int32) (x4 : Int32) (S1 : PS) : Option ((Int32 × Int32 × PS) ⊕ ((Int32 × PS) ⊕ (Int32 × PS))) :=
  (f_X11_things o0 S1).bind fun q1 => (if q1.1 ≤ x4 then some (.inr (.inr (x3, q1.2))) else (f_X11_stateOf x1 x4 q1.2).bind fun q2 => (f_X11_stateOf x2 x4 q2.2).bind fun q3 => (if q2.1 = q3.1 then f_X11_costOf_41b5 o0 x1 x2 x4 x3 (0 : Int32) q3.2 else (f_X11_thingOf o0 x4 (2 : Int32) q3.2).bind fun q4 => f_X11_costOf_41b5 o0 x1 x2 x4 x3 q4.1 q4.2))
def f_X11_costOf_49 (z3 : Int32) (S3 : PS) : Option (Int32 × PS) :=
  some (z3, S3)
def f_X11_costOf (o0 : Nat) (x1 : Int32) (x2 : Int32) (S : PS) : Option (Int32 × PS) :=
  (loopN (fun a => f_X11_costOf_b5 o0 x1 x2 a.1 a.2.1 a.2.2) fu ((0 : Int32), (0 : Int32), S)).bind (Sum.elim (fun r => some r) (fun a => f_X11_costOf_49 a.1 a.2))
set_option maxHeartbeats 4000000 in
set_option maxRecDepth 100000 in
theorem k_X11_costOf (l : Launch) (D : va_G) (cy : Nat → ClassId) (kc : Nat → Nat) (o0 : Nat) (x1 : Int32) (x2 : Int32) (S : PS) {qq : Int32 × PS} (h : f_X11_costOf o0 x1 x2 S = some qq) (t_o0 : tD S o0 11) : KI l D cy kc yX11_costOf cX11_costOf 5 .int (rmK 2 52 0 0) [.ref o0, .int x1, .int x2] S qq.1 qq.2 := by
  refine K_body (Qc := QI D cy S qq.2 qq.1) (by decide) (Nat.le_of_ble_eq_true rfl) ?_
  intro p e s m below meth c A ls args E hr hlk hnm hA F hw hl
  have hx := E.1
  have hb := E.2.1
  have hl : lv_has ls 5 [(0, .ref o0), (1, .int x1), (2, .int x2)] := hl
  have hg : Gr S S := Gr.rf
  replace h : (f_X11_costOf o0 x1 x2 S).bind some = some qq := by rw [h]; rfl
  have L5 : ∀ (o0 : Nat) (x1 : Int32) (x2 : Int32) (n : Nat) (x3 : Int32) (x4 : Int32) (S1 : PS) (o : (Int32 × PS) ⊕ (Int32 × PS)), loopN (fun a => f_X11_costOf_b5 o0 x1 x2 a.1 a.2.1 a.2.2) n (x3, x4, S1) = some o → ∀ (H : Heap) (locs : List Loc) (ls : Array Slot), Wd D cy A s H locs S1 → Gr S S1 → tD S1 o0 11 → lv_has ls 5 [(0, .ref o0), (1, .int x1), (2, .int x2), (3, .int x3), (4, .int x4)] → (∀ (e0 : Int32) (S2 : PS), o = .inr (e0, S2) → ∀ (H : Heap) (locs : List Loc) (ls : Array Slot), Wd D cy A s H locs S2 → Gr S1 S2 → lv_has ls 5 [(3, .int e0)] → W p l e (rmK 2 52 0 0) s m args below meth c H locs 0 0 (MQ below (QI D cy S qq.2 qq.1 s.heap.size) args s 0 0 A) (F0 m 49 ls [])) → (∀ q9, o = .inl q9 → q9 = qq) → W p l e (rmK 2 52 0 0) s m args below meth c H locs 0 0 (MQ below (QI D cy S qq.2 qq.1 s.heap.size) args s 0 0 A) (F0 m 5 ls []) := by
    intro o0 x1 x2 n
    induction n with
    | zero => intro x3 x4 S1 o h; exact absurd h (by simp [loopN])
    | succ n ih =>
      intro x3 x4 S1 o h H locs ls hw hG0 t_o0 hl hx2 hq2
      have hg : Gr S1 S1 := Gr.rf
      replace h : (f_X11_costOf_b5 o0 x1 x2 x3 x4 S1).bind (Sum.elim (loopN (fun a => f_X11_costOf_b5 o0 x1 x2 a.1 a.2.1 a.2.2) n) some) = some o := h
      have J41 : ∀ (z4 : Int32) (y0 : Int32) (y1 : Int32) (S3 : PS) (H : Heap) (locs : List Loc) (ls : Array Slot), (f_X11_costOf_41b5 o0 x1 x2 z4 y0 y1 S3).bind (Sum.elim (loopN (fun a => f_X11_costOf_b5 o0 x1 x2 a.1 a.2.1 a.2.2) n) some) = some o → Wd D cy A s H locs S3 → Gr S1 S3 → tD S3 o0 11 → lv_has ls 5 [(0, .ref o0), (1, .int x1), (2, .int x2), (4, .int z4)] → W p l e (rmK 2 52 0 0) s m args below meth c H locs 0 0 (MQ below (QI D cy S qq.2 qq.1 s.heap.size) args s 0 0 A) (F0 m 41 ls [.int y1, .int y0]) := by
        intro z4 y0 y1 S3 H locs ls h hw hg t_o0 hl
        rw [f_X11_costOf_41b5] at h
        refine lv_iadd hx hb dX11_costOf_41 ?_
        refine lv_istore_n (lv' := [(3, .int (y0 + y1)), (0, .ref o0), (1, .int x1), (2, .int x2), (4, .int z4)]) hx hb dX11_costOf_42 rfl hl (by decide) rfl (fun ls hl => ?_)
        refine lv_iinc (v := z4 + 1) (lv' := [(4, .int (z4 + 1)), (3, .int (y0 + y1)), (0, .ref o0), (1, .int x1), (2, .int x2)]) hx hb dX11_costOf_43 hl (k := 4) rfl rfl (by decide) rfl (fun ls hl => ?_)
        refine lv_goto (tgt := 5) hx hb dX11_costOf_46 (by decide) ?_
        exact ih (y0 + y1) (z4 + 1) S3 _ h _ _ _ hw (hG0.tr hg) t_o0 (lv_sub hl [2, 3, 4, 1, 0] rfl) (fun e0 S2 he H locs ls hw hG hl => hx2 e0 S2 he H locs ls hw (hg.tr hG) hl) hq2
      rw [f_X11_costOf_b5] at h
      refine lv_iload hx hb dX11_costOf_5 (lv_at hl 4 rfl) ?_
      refine lv_aload_n hx hb dX11_costOf_7 rfl (lv_at hl 0 rfl) ?_
      obtain ⟨q1, h_q1, h⟩ := bb h
      refine z_VI E F hw [] (k_X11_things l D cy kc o0 S1 h_q1 t_o0) t_o0 cf11 mk_X11_things vk_X11_things ml_X11_314 ⟨by decide, by decide⟩ rfl hl.1 rfl (Nat.le_of_ble_eq_true rfl) dX11_costOf_8 ⟨Nat.zero_le _, Nat.zero_le _⟩ (fun H locs hw hG => ?_)
      have t_o0 := hG.t t_o0
      have hg := hg.tr hG
      refine lv_icmp_ge (tgt := 49) hx hb dX11_costOf_11 (by decide) (fun c6 => ?_) (fun c6 => ?_)
      · rw [if_pos c6] at h
        obtain rfl := Option.some.inj h
        exact hx2 x3 q1.2 rfl _ _ _ hw hg (lv_sub hl [3] rfl)
      · rw [if_neg c6] at h
        refine lv_iload_n hx hb dX11_costOf_14 rfl (lv_at hl 3 rfl) ?_
        refine lv_iload_n hx hb dX11_costOf_15 rfl (lv_at hl 1 rfl) ?_
        refine lv_iload hx hb dX11_costOf_16 (lv_at hl 4 rfl) ?_
        obtain ⟨q2, h_q2, h⟩ := bb h
        refine z_SI E F hw [.int x1, .int x4] (k_X11_stateOf l D cy kc x1 x4 q1.2 h_q2) mk_X11_stateOf sk_X11_stateOf ml_X11_317 ⟨by decide, by decide⟩ rfl hl.1 rfl (Nat.le_of_ble_eq_true rfl) dX11_costOf_18 ⟨Nat.zero_le _, Nat.zero_le _⟩ (fun H locs hw hG => ?_)
        have t_o0 := hG.t t_o0
        have hg := hg.tr hG
        refine lv_iload_n hx hb dX11_costOf_21 rfl (lv_at hl 2 rfl) ?_
        refine lv_iload hx hb dX11_costOf_22 (lv_at hl 4 rfl) ?_
        obtain ⟨q3, h_q3, h⟩ := bb h
        refine z_SI E F hw [.int x2, .int x4] (k_X11_stateOf l D cy kc x2 x4 q2.2 h_q3) mk_X11_stateOf sk_X11_stateOf ml_X11_317 ⟨by decide, by decide⟩ rfl hl.1 rfl (Nat.le_of_ble_eq_true rfl) dX11_costOf_24 ⟨Nat.zero_le _, Nat.zero_le _⟩ (fun H locs hw hG => ?_)
        have t_o0 := hG.t t_o0
        have hg := hg.tr hG
        refine lv_icmp_eq (tgt := 40) hx hb dX11_costOf_27 (by decide) (fun c5 => ?_) (fun c5 => ?_)
        · rw [if_pos c5] at h
          refine lv_iconst (v := 0) hx hb dX11_costOf_40 (by decide) ?_
          exact J41 x4 x3 (0 : Int32) q3.2 _ _ _ h hw hg t_o0 (lv_sub hl [0, 1, 2, 4] rfl)
        · rw [if_neg c5] at h
          refine lv_aload_n hx hb dX11_costOf_30 rfl (lv_at hl 0 rfl) ?_
          refine lv_iload hx hb dX11_costOf_31 (lv_at hl 4 rfl) ?_
          refine lv_iconst (v := 2) hx hb dX11_costOf_33 (by decide) ?_
          obtain ⟨q4, h_q4, h⟩ := bb h
          refine z_VI E F hw [.int x4, .int (2 : Int32)] (k_X11_thingOf l D cy kc o0 x4 (2 : Int32) q3.2 h_q4 t_o0) t_o0 cf11 mk_X11_thingOf vk_X11_thingOf ml_X11_320 ⟨by decide, by decide⟩ rfl hl.1 rfl (Nat.le_of_ble_eq_true rfl) dX11_costOf_34 ⟨Nat.zero_le _, Nat.zero_le _⟩ (fun H locs hw hG => ?_)
          have t_o0 := hG.t t_o0
          have hg := hg.tr hG
          refine lv_goto (tgt := 41) hx hb dX11_costOf_37 (by decide) ?_
          exact J41 x4 x3 q4.1 q4.2 _ _ _ h hw hg t_o0 (lv_sub hl [0, 1, 2, 4] rfl)
  have J49 : ∀ (z3 : Int32) (S3 : PS) (H : Heap) (locs : List Loc) (ls : Array Slot), (f_X11_costOf_49 z3 S3).bind some = some qq → Wd D cy A s H locs S3 → Gr S S3 → lv_has ls 5 [(3, .int z3)] → W p l e (rmK 2 52 0 0) s m args below meth c H locs 0 0 (MQ below (QI D cy S qq.2 qq.1 s.heap.size) args s 0 0 A) (F0 m 49 ls []) := by
    intro z3 S3 H locs ls h hw hg  hl
    rw [f_X11_costOf_49] at h
    refine lv_iload_n hx hb dX11_costOf_49 rfl (lv_at hl 0 rfl) ?_
    obtain rfl := Option.some.inj h
    exact r_I E hr hlk F hA hw hg dX11_costOf_50
  rw [f_X11_costOf] at h
  refine lv_iconst (v := 0) hx hb dX11_costOf_0 (by decide) ?_
  refine lv_istore_n (lv' := [(3, .int (0 : Int32)), (0, .ref o0), (1, .int x1), (2, .int x2)]) hx hb dX11_costOf_1 rfl hl (by decide) rfl (fun ls hl => ?_)
  refine lv_iconst (v := 0) hx hb dX11_costOf_2 (by decide) ?_
  refine lv_istore (lv' := [(4, .int (0 : Int32)), (3, .int (0 : Int32)), (0, .ref o0), (1, .int x1), (2, .int x2)]) hx hb dX11_costOf_3 hl (by decide) rfl (fun ls hl => ?_)
  obtain ⟨y7, hy7, h⟩ := bb h
  refine L5 o0 x1 x2 fu (0 : Int32) (0 : Int32) S y7 hy7 _ _ _ hw (hg) t_o0 (lv_sub hl [2, 3, 4, 1, 0] rfl) (fun e0 S2 he H locs ls hw hG hl => ?_) (fun r he => ?_)
  · subst he
    have hg := hg.tr hG
    exact J49 e0 S2 _ _ _ h hw hg  (lv_sub hl [0] rfl)
  · subst he
    exact Option.some.inj h
def f_X11_worthBy (o0 : Nat) (x1 : Int32) (x2 : Int32) (x3 : Int32) (x4 : Int32) (S : PS) : Option (Int32 × PS) :=
  (rk S (sR S o0 23) 13).bind fun b1 => if ib (((((((27 : Int32) * x1) + x2) * (6 : Int32)) + x3) * (16 : Int32)) + x4) (sN S b1) = true then some ((sI S b1 (Int32.toNatClampNeg (((((((27 : Int32) * x1) + x2) * (6 : Int32)) + x3) * (16 : Int32)) + x4))), S) else none
set_option maxHeartbeats 4000000 in
set_option maxRecDepth 100000 in
theorem k_X11_worthBy (l : Launch) (D : va_G) (cy : Nat → ClassId) (kc : Nat → Nat) (o0 : Nat) (x1 : Int32) (x2 : Int32) (x3 : Int32) (x4 : Int32) (S : PS) {qq : Int32 × PS} (h : f_X11_worthBy o0 x1 x2 x3 x4 S = some qq) (t_o0 : tD S o0 11) : KI l D cy kc yX11_worthBy cX11_worthBy 5 .int (rmK 1 16 0 0) [.ref o0, .int x1, .int x2, .int x3, .int x4] S qq.1 qq.2 := by
  refine K_body (Qc := QI D cy S qq.2 qq.1) (by decide) (Nat.le_of_ble_eq_true rfl) ?_
  intro p e s m below meth c A ls args E hr hlk hnm hA F hw hl
  have hx := E.1
  have hb := E.2.1
  have hl : lv_has ls 5 [(0, .ref o0), (1, .int x1), (2, .int x2), (3, .int x3), (4, .int x4)] := hl
  have hg : Gr S S := Gr.rf
  replace h : (f_X11_worthBy o0 x1 x2 x3 x4 S).bind some = some qq := by rw [h]; rfl
  rw [f_X11_worthBy] at h
  refine lv_aload_n hx hb dX11_worthBy_0 rfl (lv_at hl 0 rfl) ?_
  obtain ⟨b1, r_b1, h⟩ := bb h
  obtain ⟨r_b1, t_b1⟩ := rk_some r_b1
  refine g_R E F hw t_o0 cf11 fk_X11_95 dX11_worthBy_1 rfl r_b1 ?_
  refine lv_bipush (v := 27) hx hb dX11_worthBy_4 (by decide) ?_
  refine lv_iload_n hx hb dX11_worthBy_6 rfl (lv_at hl 1 rfl) ?_
  refine lv_imul hx hb dX11_worthBy_7 ?_
  refine lv_iload_n hx hb dX11_worthBy_8 rfl (lv_at hl 2 rfl) ?_
  refine lv_iadd hx hb dX11_worthBy_9 ?_
  refine lv_bipush (v := 6) hx hb dX11_worthBy_10 (by decide) ?_
  refine lv_imul hx hb dX11_worthBy_12 ?_
  refine lv_iload_n hx hb dX11_worthBy_13 rfl (lv_at hl 3 rfl) ?_
  refine lv_iadd hx hb dX11_worthBy_14 ?_
  refine lv_bipush (v := 16) hx hb dX11_worthBy_15 (by decide) ?_
  refine lv_imul hx hb dX11_worthBy_17 ?_
  refine lv_iload hx hb dX11_worthBy_18 (lv_at hl 4 rfl) ?_
  refine lv_iadd hx hb dX11_worthBy_20 ?_
  obtain ⟨c2, h⟩ := bg h
  refine a_i E F hw t_b1 c2 dX11_worthBy_21 ?_
  obtain rfl := Option.some.inj h
  exact r_I E hr hlk F hA hw hg dX11_worthBy_22
def f_X11_doesAt (x0 : Int32) (x1 : Int32) (x2 : Int32) (S : PS) : Option (Int32 × PS) :=
  some ((((((4 : Int32) * x0) + x1) * (27 : Int32)) + x2), S)
set_option maxHeartbeats 4000000 in
set_option maxRecDepth 100000 in
theorem k_X11_doesAt (l : Launch) (D : va_G) (cy : Nat → ClassId) (kc : Nat → Nat) (x0 : Int32) (x1 : Int32) (x2 : Int32) (S : PS) {qq : Int32 × PS} (h : f_X11_doesAt x0 x1 x2 S = some qq) : KI l D cy kc yX11_doesAt cX11_doesAt 3 .int (rmK 1 14 0 0) [.int x0, .int x1, .int x2] S qq.1 qq.2 := by
  refine K_body (Qc := QI D cy S qq.2 qq.1) (by decide) (Nat.le_of_ble_eq_true rfl) ?_
  intro p e s m below meth c A ls args E hr hlk hnm hA F hw hl
  have hx := E.1
  have hb := E.2.1
  have hl : lv_has ls 3 [(0, .int x0), (1, .int x1), (2, .int x2)] := hl
  have hg : Gr S S := Gr.rf
  replace h : (f_X11_doesAt x0 x1 x2 S).bind some = some qq := by rw [h]; rfl
  rw [f_X11_doesAt] at h
  refine lv_iconst (v := 4) hx hb dX11_doesAt_0 (by decide) ?_
  refine lv_iload_n hx hb dX11_doesAt_1 rfl (lv_at hl 0 rfl) ?_
  refine lv_imul hx hb dX11_doesAt_2 ?_
  refine lv_iload_n hx hb dX11_doesAt_3 rfl (lv_at hl 1 rfl) ?_
  refine lv_iadd hx hb dX11_doesAt_4 ?_
  refine lv_bipush (v := 27) hx hb dX11_doesAt_5 (by decide) ?_
  refine lv_imul hx hb dX11_doesAt_7 ?_
  refine lv_iload_n hx hb dX11_doesAt_8 rfl (lv_at hl 2 rfl) ?_
  refine lv_iadd hx hb dX11_doesAt_9 ?_
  obtain rfl := Option.some.inj h
  exact r_I E hr hlk F hA hw hg dX11_doesAt_10
def f_X11_likelyAt (x0 : Int32) (x1 : Int32) (x2 : Int32) (x3 : Int32) (S : PS) : Option (Int32 × PS) :=
  some ((((((((4 : Int32) * x0) + x1) * (7 : Int32)) + x2) * (27 : Int32)) + x3), S)
set_option maxHeartbeats 4000000 in
set_option maxRecDepth 100000 in
theorem k_X11_likelyAt (l : Launch) (D : va_G) (cy : Nat → ClassId) (kc : Nat → Nat) (x0 : Int32) (x1 : Int32) (x2 : Int32) (x3 : Int32) (S : PS) {qq : Int32 × PS} (h : f_X11_likelyAt x0 x1 x2 x3 S = some qq) : KI l D cy kc yX11_likelyAt cX11_likelyAt 4 .int (rmK 1 15 0 0) [.int x0, .int x1, .int x2, .int x3] S qq.1 qq.2 := by
  refine K_body (Qc := QI D cy S qq.2 qq.1) (by decide) (Nat.le_of_ble_eq_true rfl) ?_
  intro p e s m below meth c A ls args E hr hlk hnm hA F hw hl
  have hx := E.1
  have hb := E.2.1
  have hl : lv_has ls 4 [(0, .int x0), (1, .int x1), (2, .int x2), (3, .int x3)] := hl
  have hg : Gr S S := Gr.rf
  replace h : (f_X11_likelyAt x0 x1 x2 x3 S).bind some = some qq := by rw [h]; rfl
  rw [f_X11_likelyAt] at h
  refine lv_iconst (v := 4) hx hb dX11_likelyAt_0 (by decide) ?_
  refine lv_iload_n hx hb dX11_likelyAt_1 rfl (lv_at hl 0 rfl) ?_
  refine lv_imul hx hb dX11_likelyAt_2 ?_
  refine lv_iload_n hx hb dX11_likelyAt_3 rfl (lv_at hl 1 rfl) ?_
  refine lv_iadd hx hb dX11_likelyAt_4 ?_
  refine lv_bipush (v := 7) hx hb dX11_likelyAt_5 (by decide) ?_
  refine lv_imul hx hb dX11_likelyAt_7 ?_
  refine lv_iload_n hx hb dX11_likelyAt_8 rfl (lv_at hl 2 rfl) ?_
  refine lv_iadd hx hb dX11_likelyAt_9 ?_
  refine lv_bipush (v := 27) hx hb dX11_likelyAt_10 (by decide) ?_
  refine lv_imul hx hb dX11_likelyAt_12 ?_
  refine lv_iload_n hx hb dX11_likelyAt_13 rfl (lv_at hl 3 rfl) ?_
  refine lv_iadd hx hb dX11_likelyAt_14 ?_
  obtain rfl := Option.some.inj h
  exact r_I E hr hlk F hA hw hg dX11_likelyAt_15
def f_X11_left_30 (y0 : Int32) (S3 : PS) : Option (Int32 × PS) :=
  (if 0 ≤ y0 then some (y0, S3) else some ((0 : Int32), S3))
def f_X11_left (o0 : Nat) (x1 : Int32) (x2 : Int32) (S : PS) : Option (Int32 × PS) :=
  (f_X11_life o0 S).bind fun q1 => (f_X11_springs o0 q1.2).bind fun q2 => (if (q2.1 - x1) ≤ (q1.1 - x2) then (f_X11_springs o0 q2.2).bind fun q3 => f_X11_left_30 (q3.1 - x1) q3.2 else (f_X11_life o0 q2.2).bind fun q5 => f_X11_left_30 (q5.1 - x2) q5.2)
set_option maxHeartbeats 4000000 in
set_option maxRecDepth 100000 in
theorem k_X11_left (l : Launch) (D : va_G) (cy : Nat → ClassId) (kc : Nat → Nat) (o0 : Nat) (x1 : Int32) (x2 : Int32) (S : PS) {qq : Int32 × PS} (h : f_X11_left o0 x1 x2 S = some qq) (t_o0 : tD S o0 11) : KI l D cy kc yX11_left cX11_left 4 .int (rmK 2 48 0 0) [.ref o0, .int x1, .int x2] S qq.1 qq.2 := by
  refine K_body (Qc := QI D cy S qq.2 qq.1) (by decide) (Nat.le_of_ble_eq_true rfl) ?_
  intro p e s m below meth c A ls args E hr hlk hnm hA F hw hl
  have hx := E.1
  have hb := E.2.1
  have hl : lv_has ls 4 [(0, .ref o0), (1, .int x1), (2, .int x2)] := hl
  have hg : Gr S S := Gr.rf
  replace h : (f_X11_left o0 x1 x2 S).bind some = some qq := by rw [h]; rfl
  have J30 : ∀ (y0 : Int32) (S3 : PS) (H : Heap) (locs : List Loc) (ls : Array Slot), (f_X11_left_30 y0 S3).bind some = some qq → Wd D cy A s H locs S3 → Gr S S3 → lv_has ls 4 [] → W p l e (rmK 2 48 0 0) s m args below meth c H locs 0 0 (MQ below (QI D cy S qq.2 qq.1 s.heap.size) args s 0 0 A) (F0 m 30 ls [.int y0]) := by
    intro y0 S3 H locs ls h hw hg  hl
    rw [f_X11_left_30] at h
    refine lv_istore_n (lv' := [(3, .int y0)]) hx hb dX11_left_30 rfl hl (by decide) rfl (fun ls hl => ?_)
    refine lv_iload_n hx hb dX11_left_31 rfl (lv_at hl 0 rfl) ?_
    refine lv_if_ge (tgt := 39) hx hb dX11_left_32 (by decide) (fun c4 => ?_) (fun c4 => ?_)
    · rw [if_pos c4] at h
      refine lv_iload_n hx hb dX11_left_39 rfl (lv_at hl 0 rfl) ?_
      obtain rfl := Option.some.inj h
      exact r_I E hr hlk F hA hw hg dX11_left_40
    · rw [if_neg c4] at h
      refine lv_iconst (v := 0) hx hb dX11_left_35 (by decide) ?_
      refine lv_goto (tgt := 40) hx hb dX11_left_36 (by decide) ?_
      obtain rfl := Option.some.inj h
      exact r_I E hr hlk F hA hw hg dX11_left_40
  rw [f_X11_left] at h
  refine lv_aload_n hx hb dX11_left_0 rfl (lv_at hl 0 rfl) ?_
  obtain ⟨q1, h_q1, h⟩ := bb h
  refine z_VI E F hw [] (k_X11_life l D cy kc o0 S h_q1 t_o0) t_o0 cf11 mk_X11_life vk_X11_life ml_X11_365 ⟨by decide, by decide⟩ rfl hl.1 rfl (Nat.le_of_ble_eq_true rfl) dX11_left_1 ⟨Nat.zero_le _, Nat.zero_le _⟩ (fun H locs hw hG => ?_)
  have t_o0 := hG.t t_o0
  have hg := hg.tr hG
  refine lv_iload_n hx hb dX11_left_4 rfl (lv_at hl 2 rfl) ?_
  refine lv_isub hx hb dX11_left_5 ?_
  refine lv_aload_n hx hb dX11_left_6 rfl (lv_at hl 0 rfl) ?_
  obtain ⟨q2, h_q2, h⟩ := bb h
  refine z_VI E F hw [] (k_X11_springs l D cy kc o0 q1.2 h_q2 t_o0) t_o0 cf11 mk_X11_springs vk_X11_springs ml_X11_326 ⟨by decide, by decide⟩ rfl hl.1 rfl (Nat.le_of_ble_eq_true rfl) dX11_left_7 ⟨Nat.zero_le _, Nat.zero_le _⟩ (fun H locs hw hG => ?_)
  have t_o0 := hG.t t_o0
  have hg := hg.tr hG
  refine lv_iload_n hx hb dX11_left_10 rfl (lv_at hl 1 rfl) ?_
  refine lv_isub hx hb dX11_left_11 ?_
  refine lv_icmp_ge (tgt := 24) hx hb dX11_left_12 (by decide) (fun c6 => ?_) (fun c6 => ?_)
  · rw [if_pos c6] at h
    refine lv_aload_n hx hb dX11_left_24 rfl (lv_at hl 0 rfl) ?_
    obtain ⟨q3, h_q3, h⟩ := bb h
    refine z_VI E F hw [] (k_X11_springs l D cy kc o0 q2.2 h_q3 t_o0) t_o0 cf11 mk_X11_springs vk_X11_springs ml_X11_326 ⟨by decide, by decide⟩ rfl hl.1 rfl (Nat.le_of_ble_eq_true rfl) dX11_left_25 ⟨Nat.zero_le _, Nat.zero_le _⟩ (fun H locs hw hG => ?_)
    have t_o0 := hG.t t_o0
    have hg := hg.tr hG
    refine lv_iload_n hx hb dX11_left_28 rfl (lv_at hl 1 rfl) ?_
    refine lv_isub hx hb dX11_left_29 ?_
    exact J30 (q3.1 - x1) q3.2 _ _ _ h hw hg  (lv_sub hl [] rfl)
  · rw [if_neg c6] at h
    refine lv_aload_n hx hb dX11_left_15 rfl (lv_at hl 0 rfl) ?_
    obtain ⟨q5, h_q5, h⟩ := bb h
    refine z_VI E F hw [] (k_X11_life l D cy kc o0 q2.2 h_q5 t_o0) t_o0 cf11 mk_X11_life vk_X11_life ml_X11_365 ⟨by decide, by decide⟩ rfl hl.1 rfl (Nat.le_of_ble_eq_true rfl) dX11_left_16 ⟨Nat.zero_le _, Nat.zero_le _⟩ (fun H locs hw hG => ?_)
    have t_o0 := hG.t t_o0
    have hg := hg.tr hG
    refine lv_iload_n hx hb dX11_left_19 rfl (lv_at hl 2 rfl) ?_
    refine lv_isub hx hb dX11_left_20 ?_
    refine lv_goto (tgt := 30) hx hb dX11_left_21 (by decide) ?_
    exact J30 (q5.1 - x2) q5.2 _ _ _ h hw hg  (lv_sub hl [] rfl)
def f_X11_valueBy (o0 : Nat) (x1 : Int32) (x2 : Int32) (x3 : Int32) (S : PS) : Option (Int64 × PS) :=
  (f_X11_worthBy o0 x2 x3 (0 : Int32) x1 S).bind fun q1 => (rk q1.2 (sR q1.2 o0 27) 14).bind fun b2 => (f_X11_left o0 x1 (0 : Int32) q1.2).bind fun q3 => if ib (q3.1 - (1 : Int32)) (sN q3.2 b2) = true then (rk q3.2 (sR q3.2 o0 26) 14).bind fun b5 => (f_X11_likelyAt (x1 + (1 : Int32)) x2 (1 : Int32) x3 q3.2).bind fun q6 => if ib q6.1 (sN q6.2 b5) = true then some ((((Int32.toInt64 q1.1) * (sJ q3.2 b2 (Int32.toNatClampNeg (q3.1 - (1 : Int32))))) + (sJ q6.2 b5 (Int32.toNatClampNeg q6.1))), q6.2) else none else none
set_option maxHeartbeats 4000000 in
set_option maxRecDepth 100000 in
theorem k_X11_valueBy (l : Launch) (D : va_G) (cy : Nat → ClassId) (kc : Nat → Nat) (o0 : Nat) (x1 : Int32) (x2 : Int32) (x3 : Int32) (S : PS) {qq : Int64 × PS} (h : f_X11_valueBy o0 x1 x2 x3 S = some qq) (t_o0 : tD S o0 11) : KJ l D cy kc yX11_valueBy cX11_valueBy 4 (rmK 3 87 0 0) [.ref o0, .int x1, .int x2, .int x3] S qq.1 qq.2 := by
  refine K_body (Qc := QJ D cy S qq.2 qq.1) (by decide) (Nat.le_of_ble_eq_true rfl) ?_
  intro p e s m below meth c A ls args E hr hlk hnm hA F hw hl
  have hx := E.1
  have hb := E.2.1
  have hl : lv_has ls 4 [(0, .ref o0), (1, .int x1), (2, .int x2), (3, .int x3)] := hl
  have hg : Gr S S := Gr.rf
  replace h : (f_X11_valueBy o0 x1 x2 x3 S).bind some = some qq := by rw [h]; rfl
  rw [f_X11_valueBy] at h
  refine lv_aload_n hx hb dX11_valueBy_0 rfl (lv_at hl 0 rfl) ?_
  refine lv_iload_n hx hb dX11_valueBy_1 rfl (lv_at hl 2 rfl) ?_
  refine lv_iload_n hx hb dX11_valueBy_2 rfl (lv_at hl 3 rfl) ?_
  refine lv_iconst (v := 0) hx hb dX11_valueBy_3 (by decide) ?_
  refine lv_iload_n hx hb dX11_valueBy_4 rfl (lv_at hl 1 rfl) ?_
  obtain ⟨q1, h_q1, h⟩ := bb h
  refine z_VI E F hw [.int x2, .int x3, .int (0 : Int32), .int x1] (k_X11_worthBy l D cy kc o0 x2 x3 (0 : Int32) x1 S h_q1 t_o0) t_o0 cf11 mk_X11_worthBy vk_X11_worthBy ml_X11_371 ⟨by decide, by decide⟩ rfl hl.1 rfl (Nat.le_of_ble_eq_true rfl) dX11_valueBy_5 ⟨Nat.zero_le _, Nat.zero_le _⟩ (fun H locs hw hG => ?_)
  have t_o0 := hG.t t_o0
  have hg := hg.tr hG
  refine lv_i2l hx hb dX11_valueBy_8 rfl ?_
  refine lv_aload_n hx hb dX11_valueBy_9 rfl (lv_at hl 0 rfl) ?_
  obtain ⟨b2, r_b2, h⟩ := bb h
  obtain ⟨r_b2, t_b2⟩ := rk_some r_b2
  refine g_R E F hw t_o0 cf11 fk_X11_121 dX11_valueBy_10 rfl r_b2 ?_
  refine lv_aload_n hx hb dX11_valueBy_13 rfl (lv_at hl 0 rfl) ?_
  refine lv_iload_n hx hb dX11_valueBy_14 rfl (lv_at hl 1 rfl) ?_
  refine lv_iconst (v := 0) hx hb dX11_valueBy_15 (by decide) ?_
  obtain ⟨q3, h_q3, h⟩ := bb h
  refine z_VI E F hw [.int x1, .int (0 : Int32)] (k_X11_left l D cy kc o0 x1 (0 : Int32) q1.2 h_q3 t_o0) t_o0 cf11 mk_X11_left vk_X11_left ml_X11_374 ⟨by decide, by decide⟩ rfl hl.1 rfl (Nat.le_of_ble_eq_true rfl) dX11_valueBy_16 ⟨Nat.zero_le _, Nat.zero_le _⟩ (fun H locs hw hG => ?_)
  have t_o0 := hG.t t_o0
  have t_b2 := hG.t t_b2
  have hg := hg.tr hG
  refine lv_iconst (v := 1) hx hb dX11_valueBy_19 (by decide) ?_
  refine lv_isub hx hb dX11_valueBy_20 ?_
  obtain ⟨c4, h⟩ := bg h
  refine a_j E F hw t_b2 c4 dX11_valueBy_21 ?_
  refine lv_lmul hx hb dX11_valueBy_22 ?_
  refine lv_aload_n hx hb dX11_valueBy_23 rfl (lv_at hl 0 rfl) ?_
  obtain ⟨b5, r_b5, h⟩ := bb h
  obtain ⟨r_b5, t_b5⟩ := rk_some r_b5
  refine g_R E F hw t_o0 cf11 fk_X11_104 dX11_valueBy_24 rfl r_b5 ?_
  refine lv_iload_n hx hb dX11_valueBy_27 rfl (lv_at hl 1 rfl) ?_
  refine lv_iconst (v := 1) hx hb dX11_valueBy_28 (by decide) ?_
  refine lv_iadd hx hb dX11_valueBy_29 ?_
  refine lv_iload_n hx hb dX11_valueBy_30 rfl (lv_at hl 2 rfl) ?_
  refine lv_iconst (v := 1) hx hb dX11_valueBy_31 (by decide) ?_
  refine lv_iload_n hx hb dX11_valueBy_32 rfl (lv_at hl 3 rfl) ?_
  obtain ⟨q6, h_q6, h⟩ := bb h
  refine z_SI E F hw [.int (x1 + (1 : Int32)), .int x2, .int (1 : Int32), .int x3] (k_X11_likelyAt l D cy kc (x1 + (1 : Int32)) x2 (1 : Int32) x3 q3.2 h_q6) mk_X11_likelyAt sk_X11_likelyAt ml_X11_377 ⟨by decide, by decide⟩ rfl hl.1 rfl (Nat.le_of_ble_eq_true rfl) dX11_valueBy_33 ⟨Nat.zero_le _, Nat.zero_le _⟩ (fun H locs hw hG => ?_)
  have t_o0 := hG.t t_o0
  have t_b5 := hG.t t_b5
  have hg := hg.tr hG
  obtain ⟨c7, h⟩ := bg h
  refine a_j E F hw t_b5 c7 dX11_valueBy_36 ?_
  refine lv_ladd hx hb dX11_valueBy_37 ?_
  obtain rfl := Option.some.inj h
  exact r_J E hr hlk F hA hw hg dX11_valueBy_38
def f_X11_valueOf (o0 : Nat) (x1 : Int32) (x2 : Int32) (x3 : Int32) (x4 : Int32) (S : PS) : Option (Int64 × PS) :=
  (f_X11_valueBy o0 x1 x2 x4 S).bind fun q1 => (f_X11_costOf o0 x3 x4 q1.2).bind fun q2 => (rk q2.2 (sR q2.2 o0 27) 14).bind fun b3 => (f_X11_left o0 x1 (0 : Int32) q2.2).bind fun q4 => if ib (q4.1 - (1 : Int32)) (sN q4.2 b3) = true then some ((q1.1 - ((Int32.toInt64 q2.1) * (sJ q4.2 b3 (Int32.toNatClampNeg (q4.1 - (1 : Int32)))))), q4.2) else none
set_option maxHeartbeats 4000000 in
set_option maxRecDepth 100000 in
theorem k_X11_valueOf (l : Launch) (D : va_G) (cy : Nat → ClassId) (kc : Nat → Nat) (o0 : Nat) (x1 : Int32) (x2 : Int32) (x3 : Int32) (x4 : Int32) (S : PS) {qq : Int64 × PS} (h : f_X11_valueOf o0 x1 x2 x3 x4 S = some qq) (t_o0 : tD S o0 11) : KJ l D cy kc yX11_valueOf cX11_valueOf 5 (rmK 4 126 0 0) [.ref o0, .int x1, .int x2, .int x3, .int x4] S qq.1 qq.2 := by
  refine K_body (Qc := QJ D cy S qq.2 qq.1) (by decide) (Nat.le_of_ble_eq_true rfl) ?_
  intro p e s m below meth c A ls args E hr hlk hnm hA F hw hl
  have hx := E.1
  have hb := E.2.1
  have hl : lv_has ls 5 [(0, .ref o0), (1, .int x1), (2, .int x2), (3, .int x3), (4, .int x4)] := hl
  have hg : Gr S S := Gr.rf
  replace h : (f_X11_valueOf o0 x1 x2 x3 x4 S).bind some = some qq := by rw [h]; rfl
  rw [f_X11_valueOf] at h
  refine lv_aload_n hx hb dX11_valueOf_0 rfl (lv_at hl 0 rfl) ?_
  refine lv_iload_n hx hb dX11_valueOf_1 rfl (lv_at hl 1 rfl) ?_
  refine lv_iload_n hx hb dX11_valueOf_2 rfl (lv_at hl 2 rfl) ?_
  refine lv_iload hx hb dX11_valueOf_3 (lv_at hl 4 rfl) ?_
  obtain ⟨q1, h_q1, h⟩ := bb h
  refine z_VJ E F hw [.int x1, .int x2, .int x4] (k_X11_valueBy l D cy kc o0 x1 x2 x4 S h_q1 t_o0) t_o0 cf11 mk_X11_valueBy vk_X11_valueBy ml_X11_380 ⟨by decide, by decide⟩ rfl hl.1 rfl (Nat.le_of_ble_eq_true rfl) dX11_valueOf_5 ⟨Nat.zero_le _, Nat.zero_le _⟩ (fun H locs hw hG => ?_)
  have t_o0 := hG.t t_o0
  have hg := hg.tr hG
  refine lv_aload_n hx hb dX11_valueOf_8 rfl (lv_at hl 0 rfl) ?_
  refine lv_iload_n hx hb dX11_valueOf_9 rfl (lv_at hl 3 rfl) ?_
  refine lv_iload hx hb dX11_valueOf_10 (lv_at hl 4 rfl) ?_
  obtain ⟨q2, h_q2, h⟩ := bb h
  refine z_VI E F hw [.int x3, .int x4] (k_X11_costOf l D cy kc o0 x3 x4 q1.2 h_q2 t_o0) t_o0 cf11 mk_X11_costOf vk_X11_costOf ml_X11_384 ⟨by decide, by decide⟩ rfl hl.1 rfl (Nat.le_of_ble_eq_true rfl) dX11_valueOf_12 ⟨Nat.zero_le _, Nat.zero_le _⟩ (fun H locs hw hG => ?_)
  have t_o0 := hG.t t_o0
  have hg := hg.tr hG
  refine lv_i2l hx hb dX11_valueOf_15 rfl ?_
  refine lv_aload_n hx hb dX11_valueOf_16 rfl (lv_at hl 0 rfl) ?_
  obtain ⟨b3, r_b3, h⟩ := bb h
  obtain ⟨r_b3, t_b3⟩ := rk_some r_b3
  refine g_R E F hw t_o0 cf11 fk_X11_121 dX11_valueOf_17 rfl r_b3 ?_
  refine lv_aload_n hx hb dX11_valueOf_20 rfl (lv_at hl 0 rfl) ?_
  refine lv_iload_n hx hb dX11_valueOf_21 rfl (lv_at hl 1 rfl) ?_
  refine lv_iconst (v := 0) hx hb dX11_valueOf_22 (by decide) ?_
  obtain ⟨q4, h_q4, h⟩ := bb h
  refine z_VI E F hw [.int x1, .int (0 : Int32)] (k_X11_left l D cy kc o0 x1 (0 : Int32) q2.2 h_q4 t_o0) t_o0 cf11 mk_X11_left vk_X11_left ml_X11_374 ⟨by decide, by decide⟩ rfl hl.1 rfl (Nat.le_of_ble_eq_true rfl) dX11_valueOf_23 ⟨Nat.zero_le _, Nat.zero_le _⟩ (fun H locs hw hG => ?_)
  have t_o0 := hG.t t_o0
  have t_b3 := hG.t t_b3
  have hg := hg.tr hG
  refine lv_iconst (v := 1) hx hb dX11_valueOf_26 (by decide) ?_
  refine lv_isub hx hb dX11_valueOf_27 ?_
  obtain ⟨c5, h⟩ := bg h
  refine a_j E F hw t_b3 c5 dX11_valueOf_28 ?_
  refine lv_lmul hx hb dX11_valueOf_29 ?_
  refine lv_lsub hx hb dX11_valueOf_30 ?_
  obtain rfl := Option.some.inj h
  exact r_J E hr hlk F hA hw hg dX11_valueOf_31
def f_X11_pledged (o0 : Nat) (x1 : Int32) (x2 : Int32) (S : PS) : Option (Int32 × PS) :=
  (rk S (sR S o0 10) 13).bind fun b1 => if ib ((61 : Int32) + x1) (sN S b1) = true then (if 0 ≤ ((sI S b1 (Int32.toNatClampNeg ((61 : Int32) + x1))) - (1 : Int32)) then (f_X11_mayBring o0 x1 x2 (((sI S b1 (Int32.toNatClampNeg ((61 : Int32) + x1))) - (1 : Int32)) / (3 : Int32)) (((sI S b1 (Int32.toNatClampNeg ((61 : Int32) + x1))) - (1 : Int32)) - ((sI S b1 (Int32.toNatClampNeg ((61 : Int32) + x1))) - (1 : Int32)) / (3 : Int32) * (3 : Int32)) S).bind fun q3 => (if q3.1 = 0 then some (x2, q3.2) else (f_X11_with x2 (((sI S b1 (Int32.toNatClampNeg ((61 : Int32) + x1))) - (1 : Int32)) / (3 : Int32)) (((sI S b1 (Int32.toNatClampNeg ((61 : Int32) + x1))) - (1 : Int32)) - ((sI S b1 (Int32.toNatClampNeg ((61 : Int32) + x1))) - (1 : Int32)) / (3 : Int32) * (3 : Int32)) q3.2).bind fun q4 => some (q4.1, q4.2)) else some ((-1 : Int32), S)) else none
set_option maxHeartbeats 4000000 in
set_option maxRecDepth 100000 in
theorem k_X11_pledged (l : Launch) (D : va_G) (cy : Nat → ClassId) (kc : Nat → Nat) (o0 : Nat) (x1 : Int32) (x2 : Int32) (S : PS) {qq : Int32 × PS} (h : f_X11_pledged o0 x1 x2 S = some qq) (t_o0 : tD S o0 11) : KI l D cy kc yX11_pledged cX11_pledged 4 .int (rmK 6 213 0 0) [.ref o0, .int x1, .int x2] S qq.1 qq.2 := by
  refine K_body (Qc := QI D cy S qq.2 qq.1) (by decide) (Nat.le_of_ble_eq_true rfl) ?_
  intro p e s m below meth c A ls args E hr hlk hnm hA F hw hl
  have hx := E.1
  have hb := E.2.1
  have hl : lv_has ls 4 [(0, .ref o0), (1, .int x1), (2, .int x2)] := hl
  have hg : Gr S S := Gr.rf
  replace h : (f_X11_pledged o0 x1 x2 S).bind some = some qq := by rw [h]; rfl
  rw [f_X11_pledged] at h
  refine lv_aload_n hx hb dX11_pledged_0 rfl (lv_at hl 0 rfl) ?_
  obtain ⟨b1, r_b1, h⟩ := bb h
  obtain ⟨r_b1, t_b1⟩ := rk_some r_b1
  refine g_R E F hw t_o0 cf11 fk_X11_73 dX11_pledged_1 rfl r_b1 ?_
  refine lv_bipush (v := 61) hx hb dX11_pledged_4 (by decide) ?_
  refine lv_iload_n hx hb dX11_pledged_6 rfl (lv_at hl 1 rfl) ?_
  refine lv_iadd hx hb dX11_pledged_7 ?_
  obtain ⟨c2, h⟩ := bg h
  refine a_i E F hw t_b1 c2 dX11_pledged_8 ?_
  refine lv_iconst (v := 1) hx hb dX11_pledged_9 (by decide) ?_
  refine lv_isub hx hb dX11_pledged_10 ?_
  refine lv_istore_n (lv' := [(3, .int ((sI S b1 (Int32.toNatClampNeg ((61 : Int32) + x1))) - (1 : Int32))), (0, .ref o0), (1, .int x1), (2, .int x2)]) hx hb dX11_pledged_11 rfl hl (by decide) rfl (fun ls hl => ?_)
  refine lv_iload_n hx hb dX11_pledged_12 rfl (lv_at hl 0 rfl) ?_
  refine lv_if_ge (tgt := 20) hx hb dX11_pledged_13 (by decide) (fun c6 => ?_) (fun c6 => ?_)
  · rw [if_pos c6] at h
    refine lv_aload_n hx hb dX11_pledged_20 rfl (lv_at hl 1 rfl) ?_
    refine lv_iload_n hx hb dX11_pledged_21 rfl (lv_at hl 2 rfl) ?_
    refine lv_iload_n hx hb dX11_pledged_22 rfl (lv_at hl 3 rfl) ?_
    refine lv_iload_n hx hb dX11_pledged_23 rfl (lv_at hl 0 rfl) ?_
    refine lv_iconst (v := 3) hx hb dX11_pledged_24 (by decide) ?_
    refine lv_idiv hx hb dX11_pledged_25 (by decide) ?_
    refine lv_iload_n hx hb dX11_pledged_26 rfl (lv_at hl 0 rfl) ?_
    refine lv_iconst (v := 3) hx hb dX11_pledged_27 (by decide) ?_
    refine lv_irem hx hb dX11_pledged_28 (by decide) ?_
    obtain ⟨q3, h_q3, h⟩ := bb h
    refine z_VI E F hw [.int x1, .int x2, .int (((sI S b1 (Int32.toNatClampNeg ((61 : Int32) + x1))) - (1 : Int32)) / (3 : Int32)), .int (((sI S b1 (Int32.toNatClampNeg ((61 : Int32) + x1))) - (1 : Int32)) - ((sI S b1 (Int32.toNatClampNeg ((61 : Int32) + x1))) - (1 : Int32)) / (3 : Int32) * (3 : Int32))] (k_X11_mayBring l D cy kc o0 x1 x2 (((sI S b1 (Int32.toNatClampNeg ((61 : Int32) + x1))) - (1 : Int32)) / (3 : Int32)) (((sI S b1 (Int32.toNatClampNeg ((61 : Int32) + x1))) - (1 : Int32)) - ((sI S b1 (Int32.toNatClampNeg ((61 : Int32) + x1))) - (1 : Int32)) / (3 : Int32) * (3 : Int32)) S h_q3 t_o0) t_o0 cf11 mk_X11_mayBring vk_X11_mayBring ml_X11_361 ⟨by decide, by decide⟩ rfl hl.1 rfl (Nat.le_of_ble_eq_true rfl) dX11_pledged_29 ⟨Nat.zero_le _, Nat.zero_le _⟩ (fun H locs hw hG => ?_)
    have t_o0 := hG.t t_o0
    have hg := hg.tr hG
    refine lv_if_eq (tgt := 48) hx hb dX11_pledged_32 (by decide) (fun c5 => ?_) (fun c5 => ?_)
    · rw [if_pos c5] at h
      refine lv_iload_n hx hb dX11_pledged_48 rfl (lv_at hl 3 rfl) ?_
      obtain rfl := Option.some.inj h
      exact r_I E hr hlk F hA hw hg dX11_pledged_49
    · rw [if_neg c5] at h
      refine lv_iload_n hx hb dX11_pledged_35 rfl (lv_at hl 3 rfl) ?_
      refine lv_iload_n hx hb dX11_pledged_36 rfl (lv_at hl 0 rfl) ?_
      refine lv_iconst (v := 3) hx hb dX11_pledged_37 (by decide) ?_
      refine lv_idiv hx hb dX11_pledged_38 (by decide) ?_
      refine lv_iload_n hx hb dX11_pledged_39 rfl (lv_at hl 0 rfl) ?_
      refine lv_iconst (v := 3) hx hb dX11_pledged_40 (by decide) ?_
      refine lv_irem hx hb dX11_pledged_41 (by decide) ?_
      obtain ⟨q4, h_q4, h⟩ := bb h
      refine z_SI E F hw [.int x2, .int (((sI S b1 (Int32.toNatClampNeg ((61 : Int32) + x1))) - (1 : Int32)) / (3 : Int32)), .int (((sI S b1 (Int32.toNatClampNeg ((61 : Int32) + x1))) - (1 : Int32)) - ((sI S b1 (Int32.toNatClampNeg ((61 : Int32) + x1))) - (1 : Int32)) / (3 : Int32) * (3 : Int32))] (k_X11_with l D cy kc x2 (((sI S b1 (Int32.toNatClampNeg ((61 : Int32) + x1))) - (1 : Int32)) / (3 : Int32)) (((sI S b1 (Int32.toNatClampNeg ((61 : Int32) + x1))) - (1 : Int32)) - ((sI S b1 (Int32.toNatClampNeg ((61 : Int32) + x1))) - (1 : Int32)) / (3 : Int32) * (3 : Int32)) q3.2 h_q4) mk_X11_with sk_X11_with ml_X11_351 ⟨by decide, by decide⟩ rfl hl.1 rfl (Nat.le_of_ble_eq_true rfl) dX11_pledged_42 ⟨Nat.zero_le _, Nat.zero_le _⟩ (fun H locs hw hG => ?_)
      have t_o0 := hG.t t_o0
      have hg := hg.tr hG
      refine lv_goto (tgt := 49) hx hb dX11_pledged_45 (by decide) ?_
      obtain rfl := Option.some.inj h
      exact r_I E hr hlk F hA hw hg dX11_pledged_49
  · rw [if_neg c6] at h
    refine lv_iconst (v := (-1)) hx hb dX11_pledged_16 (by decide) ?_
    refine lv_goto (tgt := 49) hx hb dX11_pledged_17 (by decide) ?_
    obtain rfl := Option.some.inj h
    exact r_I E hr hlk F hA hw hg dX11_pledged_49
def f_X11_act (o0 : Nat) (x1 : Int32) (x2 : Int32) (x3 : Int32) (S : PS) : Option (Int32 × PS) :=
  (if x3 = 0 then some (x2, S) else (f_X11_isState o0 ((x3 - (1 : Int32)) / (3 : Int32)) ((x3 - (1 : Int32)) - (x3 - (1 : Int32)) / (3 : Int32) * (3 : Int32)) S).bind fun q1 => (if q1.1 = 0 then some ((-1 : Int32), q1.2) else (f_X11_stateOf x2 ((x3 - (1 : Int32)) / (3 : Int32)) q1.2).bind fun q2 => (if ((x3 - (1 : Int32)) - (x3 - (1 : Int32)) / (3 : Int32) * (3 : Int32)) = q2.1 then some ((-1 : Int32), q2.2) else (f_X11_mayBring o0 x1 x2 ((x3 - (1 : Int32)) / (3 : Int32)) ((x3 - (1 : Int32)) - (x3 - (1 : Int32)) / (3 : Int32) * (3 : Int32)) q2.2).bind fun q3 => (if q3.1 = 0 then some ((-1 : Int32), q3.2) else (f_X11_with x2 ((x3 - (1 : Int32)) / (3 : Int32)) ((x3 - (1 : Int32)) - (x3 - (1 : Int32)) / (3 : Int32) * (3 : Int32)) q3.2).bind fun q4 => some (q4.1, q4.2)))))
set_option maxHeartbeats 4000000 in
set_option maxRecDepth 100000 in
theorem k_X11_act (l : Launch) (D : va_G) (cy : Nat → ClassId) (kc : Nat → Nat) (o0 : Nat) (x1 : Int32) (x2 : Int32) (x3 : Int32) (S : PS) {qq : Int32 × PS} (h : f_X11_act o0 x1 x2 x3 S = some qq) (t_o0 : tD S o0 11) : KI l D cy kc yX11_act cX11_act 6 .int (rmK 6 213 0 0) [.ref o0, .int x1, .int x2, .int x3] S qq.1 qq.2 := by
  refine K_body (Qc := QI D cy S qq.2 qq.1) (by decide) (Nat.le_of_ble_eq_true rfl) ?_
  intro p e s m below meth c A ls args E hr hlk hnm hA F hw hl
  have hx := E.1
  have hb := E.2.1
  have hl : lv_has ls 6 [(0, .ref o0), (1, .int x1), (2, .int x2), (3, .int x3)] := hl
  have hg : Gr S S := Gr.rf
  replace h : (f_X11_act o0 x1 x2 x3 S).bind some = some qq := by rw [h]; rfl
  rw [f_X11_act] at h
  refine lv_iload_n hx hb dX11_act_0 rfl (lv_at hl 3 rfl) ?_
  refine lv_if_ne (tgt := 6) hx hb dX11_act_1 (by decide) (fun c8 => ?_) (fun c8 => ?_)
  · rw [if_neg c8] at h
    refine lv_iload_n hx hb dX11_act_6 rfl (lv_at hl 3 rfl) ?_
    refine lv_iconst (v := 1) hx hb dX11_act_7 (by decide) ?_
    refine lv_isub hx hb dX11_act_8 ?_
    refine lv_iconst (v := 3) hx hb dX11_act_9 (by decide) ?_
    refine lv_idiv hx hb dX11_act_10 (by decide) ?_
    refine lv_istore (lv' := [(4, .int ((x3 - (1 : Int32)) / (3 : Int32))), (0, .ref o0), (1, .int x1), (2, .int x2), (3, .int x3)]) hx hb dX11_act_11 hl (by decide) rfl (fun ls hl => ?_)
    refine lv_iload_n hx hb dX11_act_13 rfl (lv_at hl 4 rfl) ?_
    refine lv_iconst (v := 1) hx hb dX11_act_14 (by decide) ?_
    refine lv_isub hx hb dX11_act_15 ?_
    refine lv_iconst (v := 3) hx hb dX11_act_16 (by decide) ?_
    refine lv_irem hx hb dX11_act_17 (by decide) ?_
    refine lv_istore (lv' := [(5, .int ((x3 - (1 : Int32)) - (x3 - (1 : Int32)) / (3 : Int32) * (3 : Int32))), (4, .int ((x3 - (1 : Int32)) / (3 : Int32))), (0, .ref o0), (1, .int x1), (2, .int x2), (3, .int x3)]) hx hb dX11_act_18 hl (by decide) rfl (fun ls hl => ?_)
    refine lv_aload_n hx hb dX11_act_20 rfl (lv_at hl 2 rfl) ?_
    refine lv_iload hx hb dX11_act_21 (lv_at hl 1 rfl) ?_
    refine lv_iload hx hb dX11_act_23 (lv_at hl 0 rfl) ?_
    obtain ⟨q1, h_q1, h⟩ := bb h
    refine z_VI E F hw [.int ((x3 - (1 : Int32)) / (3 : Int32)), .int ((x3 - (1 : Int32)) - (x3 - (1 : Int32)) / (3 : Int32) * (3 : Int32))] (k_X11_isState l D cy kc o0 ((x3 - (1 : Int32)) / (3 : Int32)) ((x3 - (1 : Int32)) - (x3 - (1 : Int32)) / (3 : Int32) * (3 : Int32)) S h_q1 t_o0) t_o0 cf11 mk_X11_isState vk_X11_isState ml_X11_357 ⟨by decide, by decide⟩ rfl hl.1 rfl (Nat.le_of_ble_eq_true rfl) dX11_act_25 ⟨Nat.zero_le _, Nat.zero_le _⟩ (fun H locs hw hG => ?_)
    have t_o0 := hG.t t_o0
    have hg := hg.tr hG
    refine lv_if_eq (tgt := 66) hx hb dX11_act_28 (by decide) (fun c7 => ?_) (fun c7 => ?_)
    · rw [if_pos c7] at h
      refine lv_iconst (v := (-1)) hx hb dX11_act_66 (by decide) ?_
      obtain rfl := Option.some.inj h
      exact r_I E hr hlk F hA hw hg dX11_act_67
    · rw [if_neg c7] at h
      refine lv_iload hx hb dX11_act_31 (lv_at hl 0 rfl) ?_
      refine lv_iload_n hx hb dX11_act_33 rfl (lv_at hl 4 rfl) ?_
      refine lv_iload hx hb dX11_act_34 (lv_at hl 1 rfl) ?_
      obtain ⟨q2, h_q2, h⟩ := bb h
      refine z_SI E F hw [.int x2, .int ((x3 - (1 : Int32)) / (3 : Int32))] (k_X11_stateOf l D cy kc x2 ((x3 - (1 : Int32)) / (3 : Int32)) q1.2 h_q2) mk_X11_stateOf sk_X11_stateOf ml_X11_317 ⟨by decide, by decide⟩ rfl hl.1 rfl (Nat.le_of_ble_eq_true rfl) dX11_act_36 ⟨Nat.zero_le _, Nat.zero_le _⟩ (fun H locs hw hG => ?_)
      have t_o0 := hG.t t_o0
      have hg := hg.tr hG
      refine lv_icmp_eq (tgt := 66) hx hb dX11_act_39 (by decide) (fun c6 => ?_) (fun c6 => ?_)
      · rw [if_pos c6] at h
        refine lv_iconst (v := (-1)) hx hb dX11_act_66 (by decide) ?_
        obtain rfl := Option.some.inj h
        exact r_I E hr hlk F hA hw hg dX11_act_67
      · rw [if_neg c6] at h
        refine lv_aload_n hx hb dX11_act_42 rfl (lv_at hl 2 rfl) ?_
        refine lv_iload_n hx hb dX11_act_43 rfl (lv_at hl 3 rfl) ?_
        refine lv_iload_n hx hb dX11_act_44 rfl (lv_at hl 4 rfl) ?_
        refine lv_iload hx hb dX11_act_45 (lv_at hl 1 rfl) ?_
        refine lv_iload hx hb dX11_act_47 (lv_at hl 0 rfl) ?_
        obtain ⟨q3, h_q3, h⟩ := bb h
        refine z_VI E F hw [.int x1, .int x2, .int ((x3 - (1 : Int32)) / (3 : Int32)), .int ((x3 - (1 : Int32)) - (x3 - (1 : Int32)) / (3 : Int32) * (3 : Int32))] (k_X11_mayBring l D cy kc o0 x1 x2 ((x3 - (1 : Int32)) / (3 : Int32)) ((x3 - (1 : Int32)) - (x3 - (1 : Int32)) / (3 : Int32) * (3 : Int32)) q2.2 h_q3 t_o0) t_o0 cf11 mk_X11_mayBring vk_X11_mayBring ml_X11_361 ⟨by decide, by decide⟩ rfl hl.1 rfl (Nat.le_of_ble_eq_true rfl) dX11_act_49 ⟨Nat.zero_le _, Nat.zero_le _⟩ (fun H locs hw hG => ?_)
        have t_o0 := hG.t t_o0
        have hg := hg.tr hG
        refine lv_if_eq (tgt := 66) hx hb dX11_act_52 (by decide) (fun c5 => ?_) (fun c5 => ?_)
        · rw [if_pos c5] at h
          refine lv_iconst (v := (-1)) hx hb dX11_act_66 (by decide) ?_
          obtain rfl := Option.some.inj h
          exact r_I E hr hlk F hA hw hg dX11_act_67
        · rw [if_neg c5] at h
          refine lv_iload_n hx hb dX11_act_55 rfl (lv_at hl 4 rfl) ?_
          refine lv_iload hx hb dX11_act_56 (lv_at hl 1 rfl) ?_
          refine lv_iload hx hb dX11_act_58 (lv_at hl 0 rfl) ?_
          obtain ⟨q4, h_q4, h⟩ := bb h
          refine z_SI E F hw [.int x2, .int ((x3 - (1 : Int32)) / (3 : Int32)), .int ((x3 - (1 : Int32)) - (x3 - (1 : Int32)) / (3 : Int32) * (3 : Int32))] (k_X11_with l D cy kc x2 ((x3 - (1 : Int32)) / (3 : Int32)) ((x3 - (1 : Int32)) - (x3 - (1 : Int32)) / (3 : Int32) * (3 : Int32)) q3.2 h_q4) mk_X11_with sk_X11_with ml_X11_351 ⟨by decide, by decide⟩ rfl hl.1 rfl (Nat.le_of_ble_eq_true rfl) dX11_act_60 ⟨Nat.zero_le _, Nat.zero_le _⟩ (fun H locs hw hG => ?_)
          have t_o0 := hG.t t_o0
          have hg := hg.tr hG
          refine lv_goto (tgt := 67) hx hb dX11_act_63 (by decide) ?_
          obtain rfl := Option.some.inj h
          exact r_I E hr hlk F hA hw hg dX11_act_67
  · rw [if_pos c8] at h
    refine lv_iload_n hx hb dX11_act_4 rfl (lv_at hl 2 rfl) ?_
    obtain rfl := Option.some.inj h
    exact r_I E hr hlk F hA hw hg dX11_act_5
def f_X11_freeChoice_55b6 (o0 : Nat) (x1 : Int32) (x2 : Int32) (x3 : Int32) (z4 : Int32) (z5 : Int32) (S3 : PS) : Option ((Int32 × Int32 × PS) ⊕ ((Int32 × PS) ⊕ (Int32 × PS))) :=
  some (.inl (z4, z5 + 1, S3))
def f_X11_freeChoice_b6 (o0 : Nat) (x1 : Int32) (x2 : Int32) (x3 : Int32) (x4 : Int32) (x5 : Int32) (S1 : PS) : Option ((Int32 × Int32 × PS) ⊕ ((Int32 × PS) ⊕ (Int32 × PS))) :=
  (if (10 : Int32) ≤ x5 then some (.inr (.inr (x4, S1))) else (f_X11_act o0 x1 x3 x5 S1).bind fun q1 => (if q1.1 < 0 then f_X11_freeChoice_55b6 o0 x1 x2 x3 x4 x5 q1.2 else (f_X11_valueOf o0 x1 x2 x3 q1.1 q1.2).bind fun q2 => (f_X11_valueOf o0 x1 x2 x3 x4 q2.2).bind fun q3 => (if (lg_cmp q2.1 q3.1) ≤ 0 then f_X11_freeChoice_55b6 o0 x1 x2 x3 x4 x5 q3.2 else some (.inl (q1.1, x5 + 1, q3.2)))))
def f_X11_freeChoice_65 (z4 : Int32) (S3 : PS) : Option (Int32 × PS) :=
  some (z4, S3)
def f_X11_freeChoice (o0 : Nat) (x1 : Int32) (x2 : Int32) (x3 : Int32) (S : PS) : Option (Int32 × PS) :=
  (loopN (fun a => f_X11_freeChoice_b6 o0 x1 x2 x3 a.1 a.2.1 a.2.2) fu (x3, (1 : Int32), S)).bind (Sum.elim (fun r => some r) (fun a => f_X11_freeChoice_65 a.1 a.2))
set_option maxHeartbeats 4000000 in
set_option maxRecDepth 100000 in
theorem k_X11_freeChoice (l : Launch) (D : va_G) (cy : Nat → ClassId) (kc : Nat → Nat) (o0 : Nat) (x1 : Int32) (x2 : Int32) (x3 : Int32) (S : PS) {qq : Int32 × PS} (h : f_X11_freeChoice o0 x1 x2 x3 S = some qq) (t_o0 : tD S o0 11) : KI l D cy kc yX11_freeChoice cX11_freeChoice 7 .int (rmK 7 254 0 0) [.ref o0, .int x1, .int x2, .int x3] S qq.1 qq.2 := by
  refine K_body (Qc := QI D cy S qq.2 qq.1) (by decide) (Nat.le_of_ble_eq_true rfl) ?_
  intro p e s m below meth c A ls args E hr hlk hnm hA F hw hl
  have hx := E.1
  have hb := E.2.1
  have hl : lv_has ls 7 [(0, .ref o0), (1, .int x1), (2, .int x2), (3, .int x3)] := hl
  have hg : Gr S S := Gr.rf
  replace h : (f_X11_freeChoice o0 x1 x2 x3 S).bind some = some qq := by rw [h]; rfl
  have L6 : ∀ (o0 : Nat) (x1 : Int32) (x2 : Int32) (x3 : Int32) (n : Nat) (x4 : Int32) (x5 : Int32) (S1 : PS) (o : (Int32 × PS) ⊕ (Int32 × PS)), loopN (fun a => f_X11_freeChoice_b6 o0 x1 x2 x3 a.1 a.2.1 a.2.2) n (x4, x5, S1) = some o → ∀ (H : Heap) (locs : List Loc) (ls : Array Slot), Wd D cy A s H locs S1 → Gr S S1 → tD S1 o0 11 → lv_has ls 7 [(0, .ref o0), (1, .int x1), (2, .int x2), (3, .int x3), (4, .int x4), (5, .int x5)] → (∀ (e0 : Int32) (S2 : PS), o = .inr (e0, S2) → ∀ (H : Heap) (locs : List Loc) (ls : Array Slot), Wd D cy A s H locs S2 → Gr S1 S2 → lv_has ls 7 [(4, .int e0)] → W p l e (rmK 7 254 0 0) s m args below meth c H locs 0 0 (MQ below (QI D cy S qq.2 qq.1 s.heap.size) args s 0 0 A) (F0 m 65 ls [])) → (∀ q9, o = .inl q9 → q9 = qq) → W p l e (rmK 7 254 0 0) s m args below meth c H locs 0 0 (MQ below (QI D cy S qq.2 qq.1 s.heap.size) args s 0 0 A) (F0 m 6 ls []) := by
    intro o0 x1 x2 x3 n
    induction n with
    | zero => intro x4 x5 S1 o h; exact absurd h (by simp [loopN])
    | succ n ih =>
      intro x4 x5 S1 o h H locs ls hw hG0 t_o0 hl hx2 hq2
      have hg : Gr S1 S1 := Gr.rf
      replace h : (f_X11_freeChoice_b6 o0 x1 x2 x3 x4 x5 S1).bind (Sum.elim (loopN (fun a => f_X11_freeChoice_b6 o0 x1 x2 x3 a.1 a.2.1 a.2.2) n) some) = some o := h
      have J55 : ∀ (z4 : Int32) (z5 : Int32) (S3 : PS) (H : Heap) (locs : List Loc) (ls : Array Slot), (f_X11_freeChoice_55b6 o0 x1 x2 x3 z4 z5 S3).bind (Sum.elim (loopN (fun a => f_X11_freeChoice_b6 o0 x1 x2 x3 a.1 a.2.1 a.2.2) n) some) = some o → Wd D cy A s H locs S3 → Gr S1 S3 → tD S3 o0 11 → lv_has ls 7 [(0, .ref o0), (1, .int x1), (2, .int x2), (3, .int x3), (4, .int z4), (5, .int z5)] → W p l e (rmK 7 254 0 0) s m args below meth c H locs 0 0 (MQ below (QI D cy S qq.2 qq.1 s.heap.size) args s 0 0 A) (F0 m 55 ls []) := by
        intro z4 z5 S3 H locs ls h hw hg t_o0 hl
        rw [f_X11_freeChoice_55b6] at h
        refine lv_iload hx hb dX11_freeChoice_55 (lv_at hl 4 rfl) ?_
        refine lv_istore (lv' := [(4, .int z4), (0, .ref o0), (1, .int x1), (2, .int x2), (3, .int x3), (5, .int z5)]) hx hb dX11_freeChoice_57 hl (by decide) rfl (fun ls hl => ?_)
        refine lv_iinc (v := z5 + 1) (lv' := [(5, .int (z5 + 1)), (4, .int z4), (0, .ref o0), (1, .int x1), (2, .int x2), (3, .int x3)]) hx hb dX11_freeChoice_59 hl (k := 5) rfl rfl (by decide) rfl (fun ls hl => ?_)
        refine lv_goto (tgt := 6) hx hb dX11_freeChoice_62 (by decide) ?_
        exact ih z4 (z5 + 1) S3 _ h _ _ _ hw (hG0.tr hg) t_o0 (lv_sub hl [2, 3, 4, 5, 1, 0] rfl) (fun e0 S2 he H locs ls hw hG hl => hx2 e0 S2 he H locs ls hw (hg.tr hG) hl) hq2
      rw [f_X11_freeChoice_b6] at h
      refine lv_iload hx hb dX11_freeChoice_6 (lv_at hl 5 rfl) ?_
      refine lv_bipush (v := 10) hx hb dX11_freeChoice_8 (by decide) ?_
      refine lv_icmp_ge (tgt := 65) hx hb dX11_freeChoice_10 (by decide) (fun c6 => ?_) (fun c6 => ?_)
      · rw [if_pos c6] at h
        obtain rfl := Option.some.inj h
        exact hx2 x4 S1 rfl _ _ _ hw hg (lv_sub hl [4] rfl)
      · rw [if_neg c6] at h
        refine lv_aload_n hx hb dX11_freeChoice_13 rfl (lv_at hl 0 rfl) ?_
        refine lv_iload_n hx hb dX11_freeChoice_14 rfl (lv_at hl 1 rfl) ?_
        refine lv_iload_n hx hb dX11_freeChoice_15 rfl (lv_at hl 3 rfl) ?_
        refine lv_iload hx hb dX11_freeChoice_16 (lv_at hl 5 rfl) ?_
        obtain ⟨q1, h_q1, h⟩ := bb h
        refine z_VI E F hw [.int x1, .int x3, .int x5] (k_X11_act l D cy kc o0 x1 x3 x5 S1 h_q1 t_o0) t_o0 cf11 mk_X11_act vk_X11_act ml_X11_387 ⟨by decide, by decide⟩ rfl hl.1 rfl (Nat.le_of_ble_eq_true rfl) dX11_freeChoice_18 ⟨Nat.zero_le _, Nat.zero_le _⟩ (fun H locs hw hG => ?_)
        have t_o0 := hG.t t_o0
        have hg := hg.tr hG
        refine lv_istore (lv' := [(6, .int q1.1), (0, .ref o0), (1, .int x1), (2, .int x2), (3, .int x3), (4, .int x4), (5, .int x5)]) hx hb dX11_freeChoice_21 hl (by decide) rfl (fun ls hl => ?_)
        refine lv_iload hx hb dX11_freeChoice_23 (lv_at hl 0 rfl) ?_
        refine lv_if_lt (tgt := 55) hx hb dX11_freeChoice_25 (by decide) (fun c5 => ?_) (fun c5 => ?_)
        · rw [if_pos c5] at h
          exact J55 x4 x5 q1.2 _ _ _ h hw hg t_o0 (lv_sub hl [1, 2, 3, 4, 5, 6] rfl)
        · rw [if_neg c5] at h
          refine lv_aload_n hx hb dX11_freeChoice_28 rfl (lv_at hl 1 rfl) ?_
          refine lv_iload_n hx hb dX11_freeChoice_29 rfl (lv_at hl 2 rfl) ?_
          refine lv_iload_n hx hb dX11_freeChoice_30 rfl (lv_at hl 3 rfl) ?_
          refine lv_iload_n hx hb dX11_freeChoice_31 rfl (lv_at hl 4 rfl) ?_
          refine lv_iload hx hb dX11_freeChoice_32 (lv_at hl 0 rfl) ?_
          obtain ⟨q2, h_q2, h⟩ := bb h
          refine z_VJ E F hw [.int x1, .int x2, .int x3, .int q1.1] (k_X11_valueOf l D cy kc o0 x1 x2 x3 q1.1 q1.2 h_q2 t_o0) t_o0 cf11 mk_X11_valueOf vk_X11_valueOf ml_X11_390 ⟨by decide, by decide⟩ rfl hl.1 rfl (Nat.le_of_ble_eq_true rfl) dX11_freeChoice_34 ⟨Nat.zero_le _, Nat.zero_le _⟩ (fun H locs hw hG => ?_)
          have t_o0 := hG.t t_o0
          have hg := hg.tr hG
          refine lv_aload_n hx hb dX11_freeChoice_37 rfl (lv_at hl 1 rfl) ?_
          refine lv_iload_n hx hb dX11_freeChoice_38 rfl (lv_at hl 2 rfl) ?_
          refine lv_iload_n hx hb dX11_freeChoice_39 rfl (lv_at hl 3 rfl) ?_
          refine lv_iload_n hx hb dX11_freeChoice_40 rfl (lv_at hl 4 rfl) ?_
          refine lv_iload hx hb dX11_freeChoice_41 (lv_at hl 5 rfl) ?_
          obtain ⟨q3, h_q3, h⟩ := bb h
          refine z_VJ E F hw [.int x1, .int x2, .int x3, .int x4] (k_X11_valueOf l D cy kc o0 x1 x2 x3 x4 q2.2 h_q3 t_o0) t_o0 cf11 mk_X11_valueOf vk_X11_valueOf ml_X11_390 ⟨by decide, by decide⟩ rfl hl.1 rfl (Nat.le_of_ble_eq_true rfl) dX11_freeChoice_43 ⟨Nat.zero_le _, Nat.zero_le _⟩ (fun H locs hw hG => ?_)
          have t_o0 := hG.t t_o0
          have hg := hg.tr hG
          refine W.lcmp hx hb dX11_freeChoice_46 ?_
          refine lv_if_le (tgt := 55) hx hb dX11_freeChoice_47 (by decide) (fun c4 => ?_) (fun c4 => ?_)
          · rw [if_pos c4] at h
            exact J55 x4 x5 q3.2 _ _ _ h hw hg t_o0 (lv_sub hl [1, 2, 3, 4, 5, 6] rfl)
          · rw [if_neg c4] at h
            refine lv_iload hx hb dX11_freeChoice_50 (lv_at hl 0 rfl) ?_
            refine lv_goto (tgt := 57) hx hb dX11_freeChoice_52 (by decide) ?_
            refine lv_istore (lv' := [(4, .int q1.1), (6, .int q1.1), (0, .ref o0), (1, .int x1), (2, .int x2), (3, .int x3), (5, .int x5)]) hx hb dX11_freeChoice_57 hl (by decide) rfl (fun ls hl => ?_)
            refine lv_iinc (v := x5 + 1) (lv' := [(5, .int (x5 + 1)), (4, .int q1.1), (6, .int q1.1), (0, .ref o0), (1, .int x1), (2, .int x2), (3, .int x3)]) hx hb dX11_freeChoice_59 hl (k := 6) rfl rfl (by decide) rfl (fun ls hl => ?_)
            refine lv_goto (tgt := 6) hx hb dX11_freeChoice_62 (by decide) ?_
            exact ih q1.1 (x5 + 1) q3.2 _ h _ _ _ hw (hG0.tr hg) t_o0 (lv_sub hl [3, 4, 5, 6, 1, 0] rfl) (fun e0 S2 he H locs ls hw hG hl => hx2 e0 S2 he H locs ls hw (hg.tr hG) hl) hq2
  have J65 : ∀ (z4 : Int32) (S3 : PS) (H : Heap) (locs : List Loc) (ls : Array Slot), (f_X11_freeChoice_65 z4 S3).bind some = some qq → Wd D cy A s H locs S3 → Gr S S3 → lv_has ls 7 [(4, .int z4)] → W p l e (rmK 7 254 0 0) s m args below meth c H locs 0 0 (MQ below (QI D cy S qq.2 qq.1 s.heap.size) args s 0 0 A) (F0 m 65 ls []) := by
    intro z4 S3 H locs ls h hw hg  hl
    rw [f_X11_freeChoice_65] at h
    refine lv_iload hx hb dX11_freeChoice_65 (lv_at hl 0 rfl) ?_
    obtain rfl := Option.some.inj h
    exact r_I E hr hlk F hA hw hg dX11_freeChoice_67
  rw [f_X11_freeChoice] at h
  refine lv_iload_n hx hb dX11_freeChoice_0 rfl (lv_at hl 3 rfl) ?_
  refine lv_istore (lv' := [(4, .int x3), (0, .ref o0), (1, .int x1), (2, .int x2), (3, .int x3)]) hx hb dX11_freeChoice_1 hl (by decide) rfl (fun ls hl => ?_)
  refine lv_iconst (v := 1) hx hb dX11_freeChoice_3 (by decide) ?_
  refine lv_istore (lv' := [(5, .int (1 : Int32)), (4, .int x3), (0, .ref o0), (1, .int x1), (2, .int x2), (3, .int x3)]) hx hb dX11_freeChoice_4 hl (by decide) rfl (fun ls hl => ?_)
  obtain ⟨y7, hy7, h⟩ := bb h
  refine L6 o0 x1 x2 x3 fu x3 (1 : Int32) S y7 hy7 _ _ _ hw (hg) t_o0 (lv_sub hl [2, 3, 4, 5, 1, 0] rfl) (fun e0 S2 he H locs ls hw hG hl => ?_) (fun r he => ?_)
  · subst he
    have hg := hg.tr hG
    exact J65 e0 S2 _ _ _ h hw hg  (lv_sub hl [0] rfl)
  · subst he
    exact Option.some.inj h
def f_X11_sixth_22 (x2 : Int32) (S3 : PS) : Option (Int32 × PS) :=
  (if 0 ≤ x2 then some ((0 : Int32), S3) else some ((6 : Int32), S3))
def f_X11_sixth (o0 : Nat) (x1 : Int32) (x2 : Int32) (S : PS) : Option (Int32 × PS) :=
  (rk S (sR S o0 10) 13).bind fun b1 => if ib ((29 : Int32) + x1) (sN S b1) = true then (f_X11_sorts o0 S).bind fun q3 => (if q3.1 = 0 then f_X11_sixth_22 x2 q3.2 else (if (sI S b1 (Int32.toNatClampNeg ((29 : Int32) + x1))) = (1 : Int32) then f_X11_sixth_22 x2 q3.2 else (if 0 ≤ x2 then (if (sI S b1 (Int32.toNatClampNeg ((29 : Int32) + x1))) = 0 then (rk q3.2 (sR q3.2 o0 10) 13).bind fun b6 => if ib ((18 : Int32) + x2) (sN q3.2 b6) = true then some ((sI q3.2 b6 (Int32.toNatClampNeg ((18 : Int32) + x2))), q3.2) else none else (if (sI S b1 (Int32.toNatClampNeg ((29 : Int32) + x1))) = ((2 : Int32) + x2) then some ((6 : Int32), q3.2) else some ((0 : Int32), q3.2))) else some ((0 : Int32), q3.2)))) else none
set_option maxHeartbeats 4000000 in
set_option maxRecDepth 100000 in
theorem k_X11_sixth (l : Launch) (D : va_G) (cy : Nat → ClassId) (kc : Nat → Nat) (o0 : Nat) (x1 : Int32) (x2 : Int32) (S : PS) {qq : Int32 × PS} (h : f_X11_sixth o0 x1 x2 S = some qq) (t_o0 : tD S o0 11) : KI l D cy kc yX11_sixth cX11_sixth 4 .int (rmK 2 48 0 0) [.ref o0, .int x1, .int x2] S qq.1 qq.2 := by
  refine K_body (Qc := QI D cy S qq.2 qq.1) (by decide) (Nat.le_of_ble_eq_true rfl) ?_
  intro p e s m below meth c A ls args E hr hlk hnm hA F hw hl
  have hx := E.1
  have hb := E.2.1
  have hl : lv_has ls 4 [(0, .ref o0), (1, .int x1), (2, .int x2)] := hl
  have hg : Gr S S := Gr.rf
  replace h : (f_X11_sixth o0 x1 x2 S).bind some = some qq := by rw [h]; rfl
  have J22 : ∀  (S3 : PS) (H : Heap) (locs : List Loc) (ls : Array Slot), (f_X11_sixth_22 x2 S3).bind some = some qq → Wd D cy A s H locs S3 → Gr S S3 → lv_has ls 4 [(2, .int x2)] → W p l e (rmK 2 48 0 0) s m args below meth c H locs 0 0 (MQ below (QI D cy S qq.2 qq.1 s.heap.size) args s 0 0 A) (F0 m 22 ls []) := by
    intro  S3 H locs ls h hw hg  hl
    rw [f_X11_sixth_22] at h
    refine lv_iload_n hx hb dX11_sixth_22 rfl (lv_at hl 0 rfl) ?_
    refine lv_if_ge (tgt := 31) hx hb dX11_sixth_23 (by decide) (fun c4 => ?_) (fun c4 => ?_)
    · rw [if_pos c4] at h
      refine lv_iconst (v := 0) hx hb dX11_sixth_31 (by decide) ?_
      obtain rfl := Option.some.inj h
      exact r_I E hr hlk F hA hw hg dX11_sixth_32
    · rw [if_neg c4] at h
      refine lv_bipush (v := 6) hx hb dX11_sixth_26 (by decide) ?_
      refine lv_goto (tgt := 32) hx hb dX11_sixth_28 (by decide) ?_
      obtain rfl := Option.some.inj h
      exact r_I E hr hlk F hA hw hg dX11_sixth_32
  rw [f_X11_sixth] at h
  refine lv_aload_n hx hb dX11_sixth_0 rfl (lv_at hl 0 rfl) ?_
  obtain ⟨b1, r_b1, h⟩ := bb h
  obtain ⟨r_b1, t_b1⟩ := rk_some r_b1
  refine g_R E F hw t_o0 cf11 fk_X11_73 dX11_sixth_1 rfl r_b1 ?_
  refine lv_bipush (v := 29) hx hb dX11_sixth_4 (by decide) ?_
  refine lv_iload_n hx hb dX11_sixth_6 rfl (lv_at hl 1 rfl) ?_
  refine lv_iadd hx hb dX11_sixth_7 ?_
  obtain ⟨c2, h⟩ := bg h
  refine a_i E F hw t_b1 c2 dX11_sixth_8 ?_
  refine lv_istore_n (lv' := [(3, .int (sI S b1 (Int32.toNatClampNeg ((29 : Int32) + x1)))), (0, .ref o0), (1, .int x1), (2, .int x2)]) hx hb dX11_sixth_9 rfl hl (by decide) rfl (fun ls hl => ?_)
  refine lv_aload_n hx hb dX11_sixth_10 rfl (lv_at hl 1 rfl) ?_
  obtain ⟨q3, h_q3, h⟩ := bb h
  refine z_VI E F hw [] (k_X11_sorts l D cy kc o0 S h_q3 t_o0) t_o0 cf11 mk_X11_sorts vk_X11_sorts ml_X11_323 ⟨by decide, by decide⟩ rfl hl.1 rfl (Nat.le_of_ble_eq_true rfl) dX11_sixth_11 ⟨Nat.zero_le _, Nat.zero_le _⟩ (fun H locs hw hG => ?_)
  have t_o0 := hG.t t_o0
  have hg := hg.tr hG
  refine lv_if_eq (tgt := 22) hx hb dX11_sixth_14 (by decide) (fun c11 => ?_) (fun c11 => ?_)
  · rw [if_pos c11] at h
    exact J22  q3.2 _ _ _ h hw hg  (lv_sub hl [3] rfl)
  · rw [if_neg c11] at h
    refine lv_iload_n hx hb dX11_sixth_17 rfl (lv_at hl 0 rfl) ?_
    refine lv_iconst (v := 1) hx hb dX11_sixth_18 (by decide) ?_
    refine lv_icmp_ne (tgt := 33) hx hb dX11_sixth_19 (by decide) (fun c10 => ?_) (fun c10 => ?_)
    · rw [if_neg c10] at h
      refine lv_iload_n hx hb dX11_sixth_33 rfl (lv_at hl 3 rfl) ?_
      refine lv_if_ge (tgt := 41) hx hb dX11_sixth_34 (by decide) (fun c9 => ?_) (fun c9 => ?_)
      · rw [if_pos c9] at h
        refine lv_iload_n hx hb dX11_sixth_41 rfl (lv_at hl 0 rfl) ?_
        refine lv_if_ne (tgt := 57) hx hb dX11_sixth_42 (by decide) (fun c8 => ?_) (fun c8 => ?_)
        · rw [if_neg c8] at h
          refine lv_iload_n hx hb dX11_sixth_57 rfl (lv_at hl 0 rfl) ?_
          refine lv_iconst (v := 2) hx hb dX11_sixth_58 (by decide) ?_
          refine lv_iload_n hx hb dX11_sixth_59 rfl (lv_at hl 3 rfl) ?_
          refine lv_iadd hx hb dX11_sixth_60 ?_
          refine lv_icmp_ne (tgt := 69) hx hb dX11_sixth_61 (by decide) (fun c5 => ?_) (fun c5 => ?_)
          · rw [if_neg c5] at h
            refine lv_iconst (v := 0) hx hb dX11_sixth_69 (by decide) ?_
            obtain rfl := Option.some.inj h
            exact r_I E hr hlk F hA hw hg dX11_sixth_70
          · rw [if_pos c5] at h
            refine lv_bipush (v := 6) hx hb dX11_sixth_64 (by decide) ?_
            refine lv_goto (tgt := 70) hx hb dX11_sixth_66 (by decide) ?_
            obtain rfl := Option.some.inj h
            exact r_I E hr hlk F hA hw hg dX11_sixth_70
        · rw [if_pos c8] at h
          refine lv_aload_n hx hb dX11_sixth_45 rfl (lv_at hl 1 rfl) ?_
          obtain ⟨b6, r_b6, h⟩ := bb h
          obtain ⟨r_b6, t_b6⟩ := rk_some r_b6
          refine g_R E F hw t_o0 cf11 fk_X11_73 dX11_sixth_46 rfl r_b6 ?_
          refine lv_bipush (v := 18) hx hb dX11_sixth_49 (by decide) ?_
          refine lv_iload_n hx hb dX11_sixth_51 rfl (lv_at hl 3 rfl) ?_
          refine lv_iadd hx hb dX11_sixth_52 ?_
          obtain ⟨c7, h⟩ := bg h
          refine a_i E F hw t_b6 c7 dX11_sixth_53 ?_
          refine lv_goto (tgt := 70) hx hb dX11_sixth_54 (by decide) ?_
          obtain rfl := Option.some.inj h
          exact r_I E hr hlk F hA hw hg dX11_sixth_70
      · rw [if_neg c9] at h
        refine lv_iconst (v := 0) hx hb dX11_sixth_37 (by decide) ?_
        refine lv_goto (tgt := 70) hx hb dX11_sixth_38 (by decide) ?_
        obtain rfl := Option.some.inj h
        exact r_I E hr hlk F hA hw hg dX11_sixth_70
    · rw [if_pos c10] at h
      exact J22  q3.2 _ _ _ h hw hg  (lv_sub hl [3] rfl)
def f_X11_likelyFor_74b28 (o0 : Nat) (x1 : Int32) (x2 : Int32) (x3 : Int32) (x4 : Int32) (x5 : Int32) (z6 : Int64) (z8 : Int32) (z9 : Int32) (y0 : Int32) (S3 : PS) : Option ((Int64 × Int32 × PS) ⊕ ((Unit × PS) ⊕ (Int64 × PS))) :=
  (f_X11_worthBy o0 x2 y0 x3 x1 S3).bind fun q8 => (rk q8.2 (sR q8.2 o0 27) 14).bind fun b9 => if ib (x5 - (1 : Int32)) (sN q8.2 b9) = true then (rk q8.2 (sR q8.2 o0 26) 14).bind fun b11 => (f_X11_likelyAt (x1 + (1 : Int32)) x2 (x3 + (1 : Int32)) y0 q8.2).bind fun q12 => if ib q12.1 (sN q12.2 b11) = true then some (.inl ((z6 + ((Int32.toInt64 z9) * (((Int32.toInt64 q8.1) * (sJ q8.2 b9 (Int32.toNatClampNeg (x5 - (1 : Int32))))) + (sJ q12.2 b11 (Int32.toNatClampNeg q12.1))))), z8 + 1, q12.2)) else none else none
def f_X11_likelyFor_b28 (o0 : Nat) (x1 : Int32) (x2 : Int32) (x3 : Int32) (x4 : Int32) (x5 : Int32) (x6 : Int64) (x8 : Int32) (S1 : PS) : Option ((Int64 × Int32 × PS) ⊕ ((Unit × PS) ⊕ (Int64 × PS))) :=
  (f_X11_sorts o0 S1).bind fun q3 => (if q3.1 ≤ x8 then some (.inr (.inr (x6, q3.2))) else (f_X11_sixth o0 x1 x8 q3.2).bind fun q4 => (if q4.1 ≤ 0 then some (.inl (x6, x8 + 1, q4.2)) else (if 0 ≤ x8 then (rk q4.2 (sR q4.2 o0 25) 13).bind fun b5 => (f_X11_doesAt x1 x8 x4 q4.2).bind fun q6 => if ib q6.1 (sN q6.2 b5) = true then f_X11_likelyFor_74b28 o0 x1 x2 x3 x4 x5 x6 x8 q4.1 (sI q6.2 b5 (Int32.toNatClampNeg q6.1)) q6.2 else none else f_X11_likelyFor_74b28 o0 x1 x2 x3 x4 x5 x6 x8 q4.1 x4 q4.2)))
def f_X11_likelyFor_129 (o0 : Nat) (x1 : Int32) (x2 : Int32) (x3 : Int32) (x4 : Int32) (z6 : Int64) (S3 : PS) : Option (Unit × PS) :=
  (rk S3 (sR S3 o0 26) 14).bind fun b18 => (f_X11_likelyAt x1 x2 x3 x4 S3).bind fun q19 => if ib q19.1 (sN q19.2 b18) = true then some ((), pJ q19.2 b18 (Int32.toNatClampNeg q19.1) z6) else none
def f_X11_likelyFor (o0 : Nat) (x1 : Int32) (x2 : Int32) (x3 : Int32) (x4 : Int32) (S : PS) : Option (Unit × PS) :=
  (f_X11_left o0 x1 x3 S).bind fun q1 => (if q1.1 = 0 then some ((), q1.2) else (f_X11_sorts o0 q1.2).bind fun q2 => (if x2 < q2.1 then (loopN (fun a => f_X11_likelyFor_b28 o0 x1 x2 x3 x4 q1.1 a.1 a.2.1 a.2.2) fu ((0 : Int64), (-1 : Int32), q2.2)).bind (Sum.elim (fun r => some r) (fun a => f_X11_likelyFor_129 o0 x1 x2 x3 x4 a.1 a.2)) else some ((), q2.2)))
set_option maxHeartbeats 4000000 in
set_option maxRecDepth 100000 in
theorem k_X11_likelyFor (l : Launch) (D : va_G) (cy : Nat → ClassId) (kc : Nat → Nat) (o0 : Nat) (x1 : Int32) (x2 : Int32) (x3 : Int32) (x4 : Int32) (S : PS) {qq : Unit × PS} (h : f_X11_likelyFor o0 x1 x2 x3 x4 S = some qq) (t_o0 : tD S o0 11) : KV l D cy kc yX11_likelyFor cX11_likelyFor 11 (rmK 3 87 0 0) [.ref o0, .int x1, .int x2, .int x3, .int x4] S qq.2 := by
  refine K_body (Qc := QV D cy S qq.2) (by decide) (Nat.le_of_ble_eq_true rfl) ?_
  intro p e s m below meth c A ls args E hr hlk hnm hA F hw hl
  have hx := E.1
  have hb := E.2.1
  have hl : lv_has ls 11 [(0, .ref o0), (1, .int x1), (2, .int x2), (3, .int x3), (4, .int x4)] := hl
  have hg : Gr S S := Gr.rf
  replace h : (f_X11_likelyFor o0 x1 x2 x3 x4 S).bind some = some qq := by rw [h]; rfl
  have L28 : ∀ (o0 : Nat) (x1 : Int32) (x2 : Int32) (x3 : Int32) (x4 : Int32) (x5 : Int32) (n : Nat) (x6 : Int64) (x8 : Int32) (S1 : PS) (o : (Unit × PS) ⊕ (Int64 × PS)), loopN (fun a => f_X11_likelyFor_b28 o0 x1 x2 x3 x4 x5 a.1 a.2.1 a.2.2) n (x6, x8, S1) = some o → ∀ (H : Heap) (locs : List Loc) (ls : Array Slot), Wd D cy A s H locs S1 → Gr S S1 → tD S1 o0 11 → lv_has ls 11 [(0, .ref o0), (1, .int x1), (2, .int x2), (3, .int x3), (4, .int x4), (5, .int x5), (6, .long x6), (8, .int x8)] → (∀ (e0 : Int64) (S2 : PS), o = .inr (e0, S2) → ∀ (H : Heap) (locs : List Loc) (ls : Array Slot), Wd D cy A s H locs S2 → Gr S1 S2 → lv_has ls 11 [(0, .ref o0), (1, .int x1), (2, .int x2), (3, .int x3), (4, .int x4), (6, .long e0)] → W p l e (rmK 3 87 0 0) s m args below meth c H locs 0 0 (MQ below (QV D cy S qq.2 s.heap.size) args s 0 0 A) (F0 m 129 ls [])) → (∀ q9, o = .inl q9 → q9 = qq) → W p l e (rmK 3 87 0 0) s m args below meth c H locs 0 0 (MQ below (QV D cy S qq.2 s.heap.size) args s 0 0 A) (F0 m 28 ls []) := by
    intro o0 x1 x2 x3 x4 x5 n
    induction n with
    | zero => intro x6 x8 S1 o h; exact absurd h (by simp [loopN])
    | succ n ih =>
      intro x6 x8 S1 o h H locs ls hw hG0 t_o0 hl hx2 hq2
      have hg : Gr S1 S1 := Gr.rf
      replace h : (f_X11_likelyFor_b28 o0 x1 x2 x3 x4 x5 x6 x8 S1).bind (Sum.elim (loopN (fun a => f_X11_likelyFor_b28 o0 x1 x2 x3 x4 x5 a.1 a.2.1 a.2.2) n) some) = some o := h
      have J74 : ∀ (z6 : Int64) (z8 : Int32) (z9 : Int32) (y0 : Int32) (S3 : PS) (H : Heap) (locs : List Loc) (ls : Array Slot), (f_X11_likelyFor_74b28 o0 x1 x2 x3 x4 x5 z6 z8 z9 y0 S3).bind (Sum.elim (loopN (fun a => f_X11_likelyFor_b28 o0 x1 x2 x3 x4 x5 a.1 a.2.1 a.2.2) n) some) = some o → Wd D cy A s H locs S3 → Gr S1 S3 → tD S3 o0 11 → lv_has ls 11 [(0, .ref o0), (1, .int x1), (2, .int x2), (3, .int x3), (4, .int x4), (5, .int x5), (6, .long z6), (8, .int z8), (9, .int z9)] → W p l e (rmK 3 87 0 0) s m args below meth c H locs 0 0 (MQ below (QV D cy S qq.2 s.heap.size) args s 0 0 A) (F0 m 74 ls [.int y0]) := by
        intro z6 z8 z9 y0 S3 H locs ls h hw hg t_o0 hl
        rw [f_X11_likelyFor_74b28] at h
        refine lv_istore (lv' := [(10, .int y0), (0, .ref o0), (1, .int x1), (2, .int x2), (3, .int x3), (4, .int x4), (5, .int x5), (6, .long z6), (8, .int z8), (9, .int z9)]) hx hb dX11_likelyFor_74 hl (by decide) rfl (fun ls hl => ?_)
        refine lv_lload hx hb dX11_likelyFor_76 (lv_at hl 7 rfl) ?_
        refine lv_iload hx hb dX11_likelyFor_78 (lv_at hl 9 rfl) ?_
        refine lv_i2l hx hb dX11_likelyFor_80 rfl ?_
        refine lv_aload_n hx hb dX11_likelyFor_81 rfl (lv_at hl 1 rfl) ?_
        refine lv_iload_n hx hb dX11_likelyFor_82 rfl (lv_at hl 3 rfl) ?_
        refine lv_iload hx hb dX11_likelyFor_83 (lv_at hl 0 rfl) ?_
        refine lv_iload_n hx hb dX11_likelyFor_85 rfl (lv_at hl 4 rfl) ?_
        refine lv_iload_n hx hb dX11_likelyFor_86 rfl (lv_at hl 2 rfl) ?_
        obtain ⟨q8, h_q8, h⟩ := bb h
        refine z_VI E F hw [.int x2, .int y0, .int x3, .int x1] (k_X11_worthBy l D cy kc o0 x2 y0 x3 x1 S3 h_q8 t_o0) t_o0 cf11 mk_X11_worthBy vk_X11_worthBy ml_X11_371 ⟨by decide, by decide⟩ rfl hl.1 rfl (Nat.le_of_ble_eq_true rfl) dX11_likelyFor_87 ⟨Nat.zero_le _, Nat.zero_le _⟩ (fun H locs hw hG => ?_)
        have t_o0 := hG.t t_o0
        have hg := hg.tr hG
        refine lv_i2l hx hb dX11_likelyFor_90 rfl ?_
        refine lv_aload_n hx hb dX11_likelyFor_91 rfl (lv_at hl 1 rfl) ?_
        obtain ⟨b9, r_b9, h⟩ := bb h
        obtain ⟨r_b9, t_b9⟩ := rk_some r_b9
        refine g_R E F hw t_o0 cf11 fk_X11_121 dX11_likelyFor_92 rfl r_b9 ?_
        refine lv_iload hx hb dX11_likelyFor_95 (lv_at hl 6 rfl) ?_
        refine lv_iconst (v := 1) hx hb dX11_likelyFor_97 (by decide) ?_
        refine lv_isub hx hb dX11_likelyFor_98 ?_
        obtain ⟨c10, h⟩ := bg h
        refine a_j E F hw t_b9 c10 dX11_likelyFor_99 ?_
        refine lv_lmul hx hb dX11_likelyFor_100 ?_
        refine lv_aload_n hx hb dX11_likelyFor_101 rfl (lv_at hl 1 rfl) ?_
        obtain ⟨b11, r_b11, h⟩ := bb h
        obtain ⟨r_b11, t_b11⟩ := rk_some r_b11
        refine g_R E F hw t_o0 cf11 fk_X11_104 dX11_likelyFor_102 rfl r_b11 ?_
        refine lv_iload_n hx hb dX11_likelyFor_105 rfl (lv_at hl 2 rfl) ?_
        refine lv_iconst (v := 1) hx hb dX11_likelyFor_106 (by decide) ?_
        refine lv_iadd hx hb dX11_likelyFor_107 ?_
        refine lv_iload_n hx hb dX11_likelyFor_108 rfl (lv_at hl 3 rfl) ?_
        refine lv_iload_n hx hb dX11_likelyFor_109 rfl (lv_at hl 4 rfl) ?_
        refine lv_iconst (v := 1) hx hb dX11_likelyFor_110 (by decide) ?_
        refine lv_iadd hx hb dX11_likelyFor_111 ?_
        refine lv_iload hx hb dX11_likelyFor_112 (lv_at hl 0 rfl) ?_
        obtain ⟨q12, h_q12, h⟩ := bb h
        refine z_SI E F hw [.int (x1 + (1 : Int32)), .int x2, .int (x3 + (1 : Int32)), .int y0] (k_X11_likelyAt l D cy kc (x1 + (1 : Int32)) x2 (x3 + (1 : Int32)) y0 q8.2 h_q12) mk_X11_likelyAt sk_X11_likelyAt ml_X11_377 ⟨by decide, by decide⟩ rfl hl.1 rfl (Nat.le_of_ble_eq_true rfl) dX11_likelyFor_114 ⟨Nat.zero_le _, Nat.zero_le _⟩ (fun H locs hw hG => ?_)
        have t_o0 := hG.t t_o0
        have t_b11 := hG.t t_b11
        have hg := hg.tr hG
        obtain ⟨c13, h⟩ := bg h
        refine a_j E F hw t_b11 c13 dX11_likelyFor_117 ?_
        refine lv_ladd hx hb dX11_likelyFor_118 ?_
        refine lv_lmul hx hb dX11_likelyFor_119 ?_
        refine lv_ladd hx hb dX11_likelyFor_120 ?_
        refine lv_lstore (lv' := [(6, .long (z6 + ((Int32.toInt64 z9) * (((Int32.toInt64 q8.1) * (sJ q8.2 b9 (Int32.toNatClampNeg (x5 - (1 : Int32))))) + (sJ q12.2 b11 (Int32.toNatClampNeg q12.1)))))), (10, .int y0), (0, .ref o0), (1, .int x1), (2, .int x2), (3, .int x3), (4, .int x4), (5, .int x5), (8, .int z8), (9, .int z9)]) hx hb dX11_likelyFor_121 hl (by decide) rfl (fun ls hl => ?_)
        refine lv_iinc (v := z8 + 1) (lv' := [(8, .int (z8 + 1)), (6, .long (z6 + ((Int32.toInt64 z9) * (((Int32.toInt64 q8.1) * (sJ q8.2 b9 (Int32.toNatClampNeg (x5 - (1 : Int32))))) + (sJ q12.2 b11 (Int32.toNatClampNeg q12.1)))))), (10, .int y0), (0, .ref o0), (1, .int x1), (2, .int x2), (3, .int x3), (4, .int x4), (5, .int x5), (9, .int z9)]) hx hb dX11_likelyFor_123 hl (k := 8) rfl rfl (by decide) rfl (fun ls hl => ?_)
        refine lv_goto (tgt := 28) hx hb dX11_likelyFor_126 (by decide) ?_
        exact ih (z6 + ((Int32.toInt64 z9) * (((Int32.toInt64 q8.1) * (sJ q8.2 b9 (Int32.toNatClampNeg (x5 - (1 : Int32))))) + (sJ q12.2 b11 (Int32.toNatClampNeg q12.1))))) (z8 + 1) q12.2 _ h _ _ _ hw (hG0.tr hg) t_o0 (lv_sub hl [3, 4, 5, 6, 7, 8, 1, 0] rfl) (fun e0 S2 he H locs ls hw hG hl => hx2 e0 S2 he H locs ls hw (hg.tr hG) hl) hq2
      rw [f_X11_likelyFor_b28] at h
      refine lv_iload hx hb dX11_likelyFor_28 (lv_at hl 7 rfl) ?_
      refine lv_aload_n hx hb dX11_likelyFor_30 rfl (lv_at hl 0 rfl) ?_
      obtain ⟨q3, h_q3, h⟩ := bb h
      refine z_VI E F hw [] (k_X11_sorts l D cy kc o0 S1 h_q3 t_o0) t_o0 cf11 mk_X11_sorts vk_X11_sorts ml_X11_323 ⟨by decide, by decide⟩ rfl hl.1 rfl (Nat.le_of_ble_eq_true rfl) dX11_likelyFor_31 ⟨Nat.zero_le _, Nat.zero_le _⟩ (fun H locs hw hG => ?_)
      have t_o0 := hG.t t_o0
      have hg := hg.tr hG
      refine lv_icmp_ge (tgt := 129) hx hb dX11_likelyFor_34 (by decide) (fun c16 => ?_) (fun c16 => ?_)
      · rw [if_pos c16] at h
        obtain rfl := Option.some.inj h
        exact hx2 x6 q3.2 rfl _ _ _ hw hg (lv_sub hl [0, 1, 2, 3, 4, 6] rfl)
      · rw [if_neg c16] at h
        refine lv_aload_n hx hb dX11_likelyFor_37 rfl (lv_at hl 0 rfl) ?_
        refine lv_iload_n hx hb dX11_likelyFor_38 rfl (lv_at hl 1 rfl) ?_
        refine lv_iload hx hb dX11_likelyFor_39 (lv_at hl 7 rfl) ?_
        obtain ⟨q4, h_q4, h⟩ := bb h
        refine z_VI E F hw [.int x1, .int x8] (k_X11_sixth l D cy kc o0 x1 x8 q3.2 h_q4 t_o0) t_o0 cf11 mk_X11_sixth vk_X11_sixth ml_X11_410 ⟨by decide, by decide⟩ rfl hl.1 rfl (Nat.le_of_ble_eq_true rfl) dX11_likelyFor_41 ⟨Nat.zero_le _, Nat.zero_le _⟩ (fun H locs hw hG => ?_)
        have t_o0 := hG.t t_o0
        have hg := hg.tr hG
        refine lv_istore (lv' := [(9, .int q4.1), (0, .ref o0), (1, .int x1), (2, .int x2), (3, .int x3), (4, .int x4), (5, .int x5), (6, .long x6), (8, .int x8)]) hx hb dX11_likelyFor_44 hl (by decide) rfl (fun ls hl => ?_)
        refine lv_iload hx hb dX11_likelyFor_46 (lv_at hl 0 rfl) ?_
        refine lv_if_le (tgt := 123) hx hb dX11_likelyFor_48 (by decide) (fun c15 => ?_) (fun c15 => ?_)
        · rw [if_pos c15] at h
          refine lv_iinc (v := x8 + 1) (lv' := [(8, .int (x8 + 1)), (9, .int q4.1), (0, .ref o0), (1, .int x1), (2, .int x2), (3, .int x3), (4, .int x4), (5, .int x5), (6, .long x6)]) hx hb dX11_likelyFor_123 hl (k := 8) rfl rfl (by decide) rfl (fun ls hl => ?_)
          refine lv_goto (tgt := 28) hx hb dX11_likelyFor_126 (by decide) ?_
          exact ih x6 (x8 + 1) q4.2 _ h _ _ _ hw (hG0.tr hg) t_o0 (lv_sub hl [2, 3, 4, 5, 6, 7, 8, 0] rfl) (fun e0 S2 he H locs ls hw hG hl => hx2 e0 S2 he H locs ls hw (hg.tr hG) hl) hq2
        · rw [if_neg c15] at h
          refine lv_iload hx hb dX11_likelyFor_51 (lv_at hl 8 rfl) ?_
          refine lv_if_ge (tgt := 61) hx hb dX11_likelyFor_53 (by decide) (fun c14 => ?_) (fun c14 => ?_)
          · rw [if_pos c14] at h
            refine lv_aload_n hx hb dX11_likelyFor_61 rfl (lv_at hl 1 rfl) ?_
            obtain ⟨b5, r_b5, h⟩ := bb h
            obtain ⟨r_b5, t_b5⟩ := rk_some r_b5
            refine g_R E F hw t_o0 cf11 fk_X11_101 dX11_likelyFor_62 rfl r_b5 ?_
            refine lv_iload_n hx hb dX11_likelyFor_65 rfl (lv_at hl 2 rfl) ?_
            refine lv_iload hx hb dX11_likelyFor_66 (lv_at hl 8 rfl) ?_
            refine lv_iload hx hb dX11_likelyFor_68 (lv_at hl 5 rfl) ?_
            obtain ⟨q6, h_q6, h⟩ := bb h
            refine z_SI E F hw [.int x1, .int x8, .int x4] (k_X11_doesAt l D cy kc x1 x8 x4 q4.2 h_q6) mk_X11_doesAt sk_X11_doesAt ml_X11_400 ⟨by decide, by decide⟩ rfl hl.1 rfl (Nat.le_of_ble_eq_true rfl) dX11_likelyFor_70 ⟨Nat.zero_le _, Nat.zero_le _⟩ (fun H locs hw hG => ?_)
            have t_o0 := hG.t t_o0
            have t_b5 := hG.t t_b5
            have hg := hg.tr hG
            obtain ⟨c7, h⟩ := bg h
            refine a_i E F hw t_b5 c7 dX11_likelyFor_73 ?_
            exact J74 x6 x8 q4.1 (sI q6.2 b5 (Int32.toNatClampNeg q6.1)) q6.2 _ _ _ h hw hg t_o0 (lv_sub hl [1, 2, 3, 4, 5, 6, 7, 8, 0] rfl)
          · rw [if_neg c14] at h
            refine lv_iload hx hb dX11_likelyFor_56 (lv_at hl 5 rfl) ?_
            refine lv_goto (tgt := 74) hx hb dX11_likelyFor_58 (by decide) ?_
            exact J74 x6 x8 q4.1 x4 q4.2 _ _ _ h hw hg t_o0 (lv_sub hl [1, 2, 3, 4, 5, 6, 7, 8, 0] rfl)
  have J129 : ∀ (z6 : Int64) (S3 : PS) (H : Heap) (locs : List Loc) (ls : Array Slot), (f_X11_likelyFor_129 o0 x1 x2 x3 x4 z6 S3).bind some = some qq → Wd D cy A s H locs S3 → Gr S S3 → tD S3 o0 11 → lv_has ls 11 [(0, .ref o0), (1, .int x1), (2, .int x2), (3, .int x3), (4, .int x4), (6, .long z6)] → W p l e (rmK 3 87 0 0) s m args below meth c H locs 0 0 (MQ below (QV D cy S qq.2 s.heap.size) args s 0 0 A) (F0 m 129 ls []) := by
    intro z6 S3 H locs ls h hw hg t_o0 hl
    rw [f_X11_likelyFor_129] at h
    refine lv_aload_n hx hb dX11_likelyFor_129 rfl (lv_at hl 0 rfl) ?_
    obtain ⟨b18, r_b18, h⟩ := bb h
    obtain ⟨r_b18, t_b18⟩ := rk_some r_b18
    refine g_R E F hw t_o0 cf11 fk_X11_104 dX11_likelyFor_130 rfl r_b18 ?_
    refine lv_iload_n hx hb dX11_likelyFor_133 rfl (lv_at hl 1 rfl) ?_
    refine lv_iload_n hx hb dX11_likelyFor_134 rfl (lv_at hl 2 rfl) ?_
    refine lv_iload_n hx hb dX11_likelyFor_135 rfl (lv_at hl 3 rfl) ?_
    refine lv_iload hx hb dX11_likelyFor_136 (lv_at hl 4 rfl) ?_
    obtain ⟨q19, h_q19, h⟩ := bb h
    refine z_SI E F hw [.int x1, .int x2, .int x3, .int x4] (k_X11_likelyAt l D cy kc x1 x2 x3 x4 S3 h_q19) mk_X11_likelyAt sk_X11_likelyAt ml_X11_377 ⟨by decide, by decide⟩ rfl hl.1 rfl (Nat.le_of_ble_eq_true rfl) dX11_likelyFor_138 ⟨Nat.zero_le _, Nat.zero_le _⟩ (fun H locs hw hG => ?_)
    have t_o0 := hG.t t_o0
    have t_b18 := hG.t t_b18
    have hg := hg.tr hG
    refine lv_lload hx hb dX11_likelyFor_141 (lv_at hl 5 rfl) ?_
    obtain ⟨c20, h⟩ := bg h
    refine b_j E F hw t_b18 c20 dX11_likelyFor_143 (fun H locs hw => ?_)
    obtain rfl := Option.some.inj h
    exact r_V E hr hlk F hA hw hg dX11_likelyFor_144
  rw [f_X11_likelyFor] at h
  refine lv_aload_n hx hb dX11_likelyFor_0 rfl (lv_at hl 0 rfl) ?_
  refine lv_iload_n hx hb dX11_likelyFor_1 rfl (lv_at hl 1 rfl) ?_
  refine lv_iload_n hx hb dX11_likelyFor_2 rfl (lv_at hl 3 rfl) ?_
  obtain ⟨q1, h_q1, h⟩ := bb h
  refine z_VI E F hw [.int x1, .int x3] (k_X11_left l D cy kc o0 x1 x3 S h_q1 t_o0) t_o0 cf11 mk_X11_left vk_X11_left ml_X11_374 ⟨by decide, by decide⟩ rfl hl.1 rfl (Nat.le_of_ble_eq_true rfl) dX11_likelyFor_3 ⟨Nat.zero_le _, Nat.zero_le _⟩ (fun H locs hw hG => ?_)
  have t_o0 := hG.t t_o0
  have hg := hg.tr hG
  refine lv_istore (lv' := [(5, .int q1.1), (0, .ref o0), (1, .int x1), (2, .int x2), (3, .int x3), (4, .int x4)]) hx hb dX11_likelyFor_6 hl (by decide) rfl (fun ls hl => ?_)
  refine lv_iload hx hb dX11_likelyFor_8 (lv_at hl 0 rfl) ?_
  refine lv_if_eq (tgt := 21) hx hb dX11_likelyFor_10 (by decide) (fun c22 => ?_) (fun c22 => ?_)
  · rw [if_pos c22] at h
    obtain rfl := Option.some.inj h
    exact r_V E hr hlk F hA hw hg dX11_likelyFor_21
  · rw [if_neg c22] at h
    refine lv_iload_n hx hb dX11_likelyFor_13 rfl (lv_at hl 3 rfl) ?_
    refine lv_aload_n hx hb dX11_likelyFor_14 rfl (lv_at hl 1 rfl) ?_
    obtain ⟨q2, h_q2, h⟩ := bb h
    refine z_VI E F hw [] (k_X11_sorts l D cy kc o0 q1.2 h_q2 t_o0) t_o0 cf11 mk_X11_sorts vk_X11_sorts ml_X11_323 ⟨by decide, by decide⟩ rfl hl.1 rfl (Nat.le_of_ble_eq_true rfl) dX11_likelyFor_15 ⟨Nat.zero_le _, Nat.zero_le _⟩ (fun H locs hw hG => ?_)
    have t_o0 := hG.t t_o0
    have hg := hg.tr hG
    refine lv_icmp_lt (tgt := 22) hx hb dX11_likelyFor_18 (by decide) (fun c21 => ?_) (fun c21 => ?_)
    · rw [if_pos c21] at h
      refine lv_lconst (v := 0) hx hb dX11_likelyFor_22 (by decide) ?_
      refine lv_lstore (lv' := [(6, .long (0 : Int64)), (5, .int q1.1), (0, .ref o0), (1, .int x1), (2, .int x2), (3, .int x3), (4, .int x4)]) hx hb dX11_likelyFor_23 hl (by decide) rfl (fun ls hl => ?_)
      refine lv_iconst (v := (-1)) hx hb dX11_likelyFor_25 (by decide) ?_
      refine lv_istore (lv' := [(8, .int (-1 : Int32)), (6, .long (0 : Int64)), (5, .int q1.1), (0, .ref o0), (1, .int x1), (2, .int x2), (3, .int x3), (4, .int x4)]) hx hb dX11_likelyFor_26 hl (by decide) rfl (fun ls hl => ?_)
      obtain ⟨y17, hy17, h⟩ := bb h
      refine L28 o0 x1 x2 x3 x4 q1.1 fu (0 : Int64) (-1 : Int32) q2.2 y17 hy17 _ _ _ hw (hg) t_o0 (lv_sub hl [3, 4, 5, 6, 7, 2, 1, 0] rfl) (fun e0 S2 he H locs ls hw hG hl => ?_) (fun r he => ?_)
      · subst he
        have t_o0 := hG.t t_o0
        have hg := hg.tr hG
        exact J129 e0 S2 _ _ _ h hw hg t_o0 (lv_sub hl [0, 1, 2, 3, 4, 5] rfl)
      · subst he
        exact Option.some.inj h
    · rw [if_neg c21] at h
      obtain rfl := Option.some.inj h
      exact r_V E hr hlk F hA hw hg dX11_likelyFor_21
def f_X11_finds_b2 (o0 : Nat) (x1 : Int32) (S1 : PS) : Option ((Int32 × PS) ⊕ ((Unit × PS) ⊕ (PS))) :=
  (if (12852 : Int32) ≤ x1 then some (.inr (.inr (S1))) else (rk S1 (sR S1 o0 26) 14).bind fun b1 => if ib x1 (sN S1 b1) = true then some (.inl (x1 + 1, pJ S1 b1 (Int32.toNatClampNeg x1) (0 : Int64))) else none)
def f_X11_finds_94b43 (o0 : Nat) (x1 : Int32) (x2 : Int32) (z3 : Int32) (w0 : Nat) (y1 : Int32) (y2 : Int32) (S3 : PS) : Option ((Int32 × PS) ⊕ ((Unit × PS) ⊕ (PS))) :=
  if ib y1 (sN S3 w0) = true then some (.inl (z3 + 1, pI S3 w0 (Int32.toNatClampNeg y1) y2)) else none
def f_X11_finds_b43 (o0 : Nat) (x1 : Int32) (x2 : Int32) (x3 : Int32) (S1 : PS) : Option ((Int32 × PS) ⊕ ((Unit × PS) ⊕ (PS))) :=
  (f_X11_sorts o0 S1).bind fun q6 => (if q6.1 ≤ x3 then some (.inr (.inr (q6.2))) else (f_X11_isStands o0 x2 q6.2).bind fun q7 => (if q7.1 = 0 then some (.inr (.inr (q7.2))) else (f_X11_pledged o0 x1 x2 q7.2).bind fun q8 => (rk q8.2 (sR q8.2 o0 25) 13).bind fun b9 => (f_X11_doesAt x1 x3 x2 q8.2).bind fun q10 => (if q8.1 < 0 then (f_X11_freeChoice o0 x1 x3 x2 q10.2).bind fun q11 => f_X11_finds_94b43 o0 x1 x2 x3 b9 q10.1 q11.1 q11.2 else f_X11_finds_94b43 o0 x1 x2 x3 b9 q10.1 q8.1 q10.2)))
def f_X11_finds_101b35 (o0 : Nat) (x1 : Int32) (z2 : Int32) (S3 : PS) : Option ((Int32 × PS) ⊕ ((Unit × PS) ⊕ (PS))) :=
  some (.inl (z2 + 1, S3))
def f_X11_finds_b35 (o0 : Nat) (x1 : Int32) (x2 : Int32) (S1 : PS) : Option ((Int32 × PS) ⊕ ((Unit × PS) ⊕ (PS))) :=
  (if (27 : Int32) ≤ x2 then some (.inr (.inr (S1))) else (loopN (fun a => f_X11_finds_b43 o0 x1 x2 a.1 a.2) fu ((0 : Int32), S1)).bind (Sum.elim (fun r => some (.inr (.inl r))) (fun a => f_X11_finds_101b35 o0 x1 x2 a)))
def f_X11_finds_b117 (o0 : Nat) (x1 : Int32) (x2 : Int32) (x3 : Int32) (S1 : PS) : Option ((Int32 × PS) ⊕ ((Unit × PS) ⊕ (PS))) :=
  (if (24 : Int32) ≤ x3 then some (.inr (.inr (S1))) else (f_X11_isStands o0 x2 S1).bind fun q19 => (if q19.1 = 0 then some (.inr (.inr (q19.2))) else (f_X11_likelyFor o0 x1 (x3 / (6 : Int32)) ((x3 - x3 / (6 : Int32) * (6 : Int32)) + (1 : Int32)) x2 q19.2).bind fun q20 => some (.inl (x3 + 1, q20.2))))
def f_X11_finds_153b109 (o0 : Nat) (x1 : Int32) (z2 : Int32) (S3 : PS) : Option ((Int32 × PS) ⊕ ((Unit × PS) ⊕ (PS))) :=
  some (.inl (z2 + 1, S3))
def f_X11_finds_b109 (o0 : Nat) (x1 : Int32) (x2 : Int32) (S1 : PS) : Option ((Int32 × PS) ⊕ ((Unit × PS) ⊕ (PS))) :=
  (if (27 : Int32) ≤ x2 then some (.inr (.inr (S1))) else (loopN (fun a => f_X11_finds_b117 o0 x1 x2 a.1 a.2) fu ((0 : Int32), S1)).bind (Sum.elim (fun r => some (.inr (.inl r))) (fun a => f_X11_finds_153b109 o0 x1 x2 a)))
def f_X11_finds_159b29 (o0 : Nat) (z1 : Int32) (S3 : PS) : Option ((Int32 × PS) ⊕ ((Unit × PS) ⊕ (PS))) :=
  some (.inl (z1 + (-1), S3))
def f_X11_finds_107b29 (o0 : Nat) (z1 : Int32) (S3 : PS) : Option ((Int32 × PS) ⊕ ((Unit × PS) ⊕ (PS))) :=
  (loopN (fun a => f_X11_finds_b109 o0 z1 a.1 a.2) fu ((0 : Int32), S3)).bind (Sum.elim (fun r => some (.inr (.inl r))) (fun a => f_X11_finds_159b29 o0 z1 a))
def f_X11_finds_b29 (o0 : Nat) (x1 : Int32) (S1 : PS) : Option ((Int32 × PS) ⊕ ((Unit × PS) ⊕ (PS))) :=
  (if x1 < 0 then some (.inr (.inr (S1))) else (loopN (fun a => f_X11_finds_b35 o0 x1 a.1 a.2) fu ((0 : Int32), S1)).bind (Sum.elim (fun r => some (.inr (.inl r))) (fun a => f_X11_finds_107b29 o0 x1 a)))
def f_X11_finds_165  (S3 : PS) : Option (Unit × PS) :=
  some ((), S3)
def f_X11_finds_22 (o0 : Nat) (S3 : PS) : Option (Unit × PS) :=
  (f_X11_springs o0 S3).bind fun q5 => (loopN (fun a => f_X11_finds_b29 o0 a.1 a.2) fu ((q5.1 - (1 : Int32)), q5.2)).bind (Sum.elim (fun r => some r) (fun a => f_X11_finds_165  a))
def f_X11_finds (o0 : Nat) (S : PS) : Option (Unit × PS) :=
  (loopN (fun a => f_X11_finds_b2 o0 a.1 a.2) fu ((0 : Int32), S)).bind (Sum.elim (fun r => some r) (fun a => f_X11_finds_22 o0 a))
set_option maxHeartbeats 4000000 in
set_option maxRecDepth 100000 in
theorem k_X11_finds (l : Launch) (D : va_G) (cy : Nat → ClassId) (kc : Nat → Nat) (o0 : Nat) (S : PS) {qq : Unit × PS} (h : f_X11_finds o0 S = some qq) (t_o0 : tD S o0 11) : KV l D cy kc yX11_finds cX11_finds 5 (rmK 8 296 0 0) [.ref o0] S qq.2 := by
  refine K_body (Qc := QV D cy S qq.2) (by decide) (Nat.le_of_ble_eq_true rfl) ?_
  intro p e s m below meth c A ls args E hr hlk hnm hA F hw hl
  have hx := E.1
  have hb := E.2.1
  have hl : lv_has ls 5 [(0, .ref o0)] := hl
  have hg : Gr S S := Gr.rf
  replace h : (f_X11_finds o0 S).bind some = some qq := by rw [h]; rfl
  have L2 : ∀ (o0 : Nat) (n : Nat) (x1 : Int32) (S1 : PS) (o : (Unit × PS) ⊕ (PS)), loopN (fun a => f_X11_finds_b2 o0 a.1 a.2) n (x1, S1) = some o → ∀ (H : Heap) (locs : List Loc) (ls : Array Slot), Wd D cy A s H locs S1 → Gr S S1 → tD S1 o0 11 → lv_has ls 5 [(0, .ref o0), (1, .int x1)] → (∀ (S2 : PS), o = .inr (S2) → ∀ (H : Heap) (locs : List Loc) (ls : Array Slot), Wd D cy A s H locs S2 → Gr S1 S2 → lv_has ls 5 [(0, .ref o0)] → W p l e (rmK 8 296 0 0) s m args below meth c H locs 0 0 (MQ below (QV D cy S qq.2 s.heap.size) args s 0 0 A) (F0 m 22 ls [])) → (∀ q9, o = .inl q9 → q9 = qq) → W p l e (rmK 8 296 0 0) s m args below meth c H locs 0 0 (MQ below (QV D cy S qq.2 s.heap.size) args s 0 0 A) (F0 m 2 ls []) := by
    intro o0 n
    induction n with
    | zero => intro x1 S1 o h; exact absurd h (by simp [loopN])
    | succ n ih =>
      intro x1 S1 o h H locs ls hw hG0 t_o0 hl hx2 hq2
      have hg : Gr S1 S1 := Gr.rf
      replace h : (f_X11_finds_b2 o0 x1 S1).bind (Sum.elim (loopN (fun a => f_X11_finds_b2 o0 a.1 a.2) n) some) = some o := h
      rw [f_X11_finds_b2] at h
      refine lv_iload_n hx hb dX11_finds_2 rfl (lv_at hl 1 rfl) ?_
      refine lv_sipush (v := 12852) hx hb dX11_finds_3 (by decide) ?_
      refine lv_icmp_ge (tgt := 22) hx hb dX11_finds_6 (by decide) (fun c3 => ?_) (fun c3 => ?_)
      · rw [if_pos c3] at h
        obtain rfl := Option.some.inj h
        exact hx2 S1 rfl _ _ _ hw hg (lv_sub hl [0] rfl)
      · rw [if_neg c3] at h
        refine lv_aload_n hx hb dX11_finds_9 rfl (lv_at hl 0 rfl) ?_
        obtain ⟨b1, r_b1, h⟩ := bb h
        obtain ⟨r_b1, t_b1⟩ := rk_some r_b1
        refine g_R E F hw t_o0 cf11 fk_X11_104 dX11_finds_10 rfl r_b1 ?_
        refine lv_iload_n hx hb dX11_finds_13 rfl (lv_at hl 1 rfl) ?_
        refine lv_lconst (v := 0) hx hb dX11_finds_14 (by decide) ?_
        obtain ⟨c2, h⟩ := bg h
        refine b_j E F hw t_b1 c2 dX11_finds_15 (fun H locs hw => ?_)
        refine lv_iinc (v := x1 + 1) (lv' := [(1, .int (x1 + 1)), (0, .ref o0)]) hx hb dX11_finds_16 hl (k := 1) rfl rfl (by decide) rfl (fun ls hl => ?_)
        refine lv_goto (tgt := 2) hx hb dX11_finds_19 (by decide) ?_
        exact ih (x1 + 1) (pJ S1 b1 (Int32.toNatClampNeg x1) (0 : Int64)) _ h _ _ _ hw (hG0.tr hg) t_o0 (lv_sub hl [1, 0] rfl) (fun  S2 he H locs ls hw hG hl => hx2  S2 he H locs ls hw (hg.tr hG) hl) hq2
  have L43 : ∀ (o0 : Nat) (x1 : Int32) (x2 : Int32) (n : Nat) (x3 : Int32) (S1 : PS) (o : (Unit × PS) ⊕ (PS)), loopN (fun a => f_X11_finds_b43 o0 x1 x2 a.1 a.2) n (x3, S1) = some o → ∀ (H : Heap) (locs : List Loc) (ls : Array Slot), Wd D cy A s H locs S1 → Gr S S1 → tD S1 o0 11 → lv_has ls 5 [(0, .ref o0), (1, .int x1), (2, .int x2), (3, .int x3)] → (∀ (S2 : PS), o = .inr (S2) → ∀ (H : Heap) (locs : List Loc) (ls : Array Slot), Wd D cy A s H locs S2 → Gr S1 S2 → lv_has ls 5 [(0, .ref o0), (1, .int x1), (2, .int x2)] → W p l e (rmK 8 296 0 0) s m args below meth c H locs 0 0 (MQ below (QV D cy S qq.2 s.heap.size) args s 0 0 A) (F0 m 101 ls [])) → (∀ q9, o = .inl q9 → q9 = qq) → W p l e (rmK 8 296 0 0) s m args below meth c H locs 0 0 (MQ below (QV D cy S qq.2 s.heap.size) args s 0 0 A) (F0 m 43 ls []) := by
    intro o0 x1 x2 n
    induction n with
    | zero => intro x3 S1 o h; exact absurd h (by simp [loopN])
    | succ n ih =>
      intro x3 S1 o h H locs ls hw hG0 t_o0 hl hx2 hq2
      have hg : Gr S1 S1 := Gr.rf
      replace h : (f_X11_finds_b43 o0 x1 x2 x3 S1).bind (Sum.elim (loopN (fun a => f_X11_finds_b43 o0 x1 x2 a.1 a.2) n) some) = some o := h
      have J94 : ∀ (z3 : Int32) (w0 : Nat) (y1 : Int32) (y2 : Int32) (S3 : PS) (H : Heap) (locs : List Loc) (ls : Array Slot), (f_X11_finds_94b43 o0 x1 x2 z3 w0 y1 y2 S3).bind (Sum.elim (loopN (fun a => f_X11_finds_b43 o0 x1 x2 a.1 a.2) n) some) = some o → Wd D cy A s H locs S3 → Gr S1 S3 → tD S3 o0 11 → tD S3 w0 13 → lv_has ls 5 [(0, .ref o0), (1, .int x1), (2, .int x2), (3, .int z3)] → W p l e (rmK 8 296 0 0) s m args below meth c H locs 0 0 (MQ below (QV D cy S qq.2 s.heap.size) args s 0 0 A) (F0 m 94 ls [.int y2, .int y1, .ref w0]) := by
        intro z3 w0 y1 y2 S3 H locs ls h hw hg t_o0 t_w0 hl
        rw [f_X11_finds_94b43] at h
        obtain ⟨c12, h⟩ := bg h
        refine b_i E F hw t_w0 c12 dX11_finds_94 (fun H locs hw => ?_)
        refine lv_iinc (v := z3 + 1) (lv' := [(3, .int (z3 + 1)), (0, .ref o0), (1, .int x1), (2, .int x2)]) hx hb dX11_finds_95 hl (k := 3) rfl rfl (by decide) rfl (fun ls hl => ?_)
        refine lv_goto (tgt := 43) hx hb dX11_finds_98 (by decide) ?_
        exact ih (z3 + 1) (pI S3 w0 (Int32.toNatClampNeg y1) y2) _ h _ _ _ hw (hG0.tr hg) t_o0 (lv_sub hl [1, 2, 3, 0] rfl) (fun  S2 he H locs ls hw hG hl => hx2  S2 he H locs ls hw (hg.tr hG) hl) hq2
      rw [f_X11_finds_b43] at h
      refine lv_iload_n hx hb dX11_finds_43 rfl (lv_at hl 3 rfl) ?_
      refine lv_aload_n hx hb dX11_finds_44 rfl (lv_at hl 0 rfl) ?_
      obtain ⟨q6, h_q6, h⟩ := bb h
      refine z_VI E F hw [] (k_X11_sorts l D cy kc o0 S1 h_q6 t_o0) t_o0 cf11 mk_X11_sorts vk_X11_sorts ml_X11_323 ⟨by decide, by decide⟩ rfl hl.1 rfl (Nat.le_of_ble_eq_true rfl) dX11_finds_45 ⟨Nat.zero_le _, Nat.zero_le _⟩ (fun H locs hw hG => ?_)
      have t_o0 := hG.t t_o0
      have hg := hg.tr hG
      refine lv_icmp_ge (tgt := 101) hx hb dX11_finds_48 (by decide) (fun c15 => ?_) (fun c15 => ?_)
      · rw [if_pos c15] at h
        obtain rfl := Option.some.inj h
        exact hx2 q6.2 rfl _ _ _ hw hg (lv_sub hl [0, 1, 2] rfl)
      · rw [if_neg c15] at h
        refine lv_aload_n hx hb dX11_finds_51 rfl (lv_at hl 0 rfl) ?_
        refine lv_iload_n hx hb dX11_finds_52 rfl (lv_at hl 2 rfl) ?_
        obtain ⟨q7, h_q7, h⟩ := bb h
        refine z_VI E F hw [.int x2] (k_X11_isStands l D cy kc o0 x2 q6.2 h_q7 t_o0) t_o0 cf11 mk_X11_isStands vk_X11_isStands ml_X11_341 ⟨by decide, by decide⟩ rfl hl.1 rfl (Nat.le_of_ble_eq_true rfl) dX11_finds_53 ⟨Nat.zero_le _, Nat.zero_le _⟩ (fun H locs hw hG => ?_)
        have t_o0 := hG.t t_o0
        have hg := hg.tr hG
        refine lv_if_eq (tgt := 101) hx hb dX11_finds_56 (by decide) (fun c14 => ?_) (fun c14 => ?_)
        · rw [if_pos c14] at h
          obtain rfl := Option.some.inj h
          exact hx2 q7.2 rfl _ _ _ hw hg (lv_sub hl [0, 1, 2] rfl)
        · rw [if_neg c14] at h
          refine lv_aload_n hx hb dX11_finds_59 rfl (lv_at hl 0 rfl) ?_
          refine lv_iload_n hx hb dX11_finds_60 rfl (lv_at hl 1 rfl) ?_
          refine lv_iload_n hx hb dX11_finds_61 rfl (lv_at hl 2 rfl) ?_
          obtain ⟨q8, h_q8, h⟩ := bb h
          refine z_VI E F hw [.int x1, .int x2] (k_X11_pledged l D cy kc o0 x1 x2 q7.2 h_q8 t_o0) t_o0 cf11 mk_X11_pledged vk_X11_pledged ml_X11_397 ⟨by decide, by decide⟩ rfl hl.1 rfl (Nat.le_of_ble_eq_true rfl) dX11_finds_62 ⟨Nat.zero_le _, Nat.zero_le _⟩ (fun H locs hw hG => ?_)
          have t_o0 := hG.t t_o0
          have hg := hg.tr hG
          refine lv_istore (lv' := [(4, .int q8.1), (0, .ref o0), (1, .int x1), (2, .int x2), (3, .int x3)]) hx hb dX11_finds_65 hl (by decide) rfl (fun ls hl => ?_)
          refine lv_aload_n hx hb dX11_finds_67 rfl (lv_at hl 1 rfl) ?_
          obtain ⟨b9, r_b9, h⟩ := bb h
          obtain ⟨r_b9, t_b9⟩ := rk_some r_b9
          refine g_R E F hw t_o0 cf11 fk_X11_101 dX11_finds_68 rfl r_b9 ?_
          refine lv_iload_n hx hb dX11_finds_71 rfl (lv_at hl 2 rfl) ?_
          refine lv_iload_n hx hb dX11_finds_72 rfl (lv_at hl 4 rfl) ?_
          refine lv_iload_n hx hb dX11_finds_73 rfl (lv_at hl 3 rfl) ?_
          obtain ⟨q10, h_q10, h⟩ := bb h
          refine z_SI E F hw [.int x1, .int x3, .int x2] (k_X11_doesAt l D cy kc x1 x3 x2 q8.2 h_q10) mk_X11_doesAt sk_X11_doesAt ml_X11_400 ⟨by decide, by decide⟩ rfl hl.1 rfl (Nat.le_of_ble_eq_true rfl) dX11_finds_74 ⟨Nat.zero_le _, Nat.zero_le _⟩ (fun H locs hw hG => ?_)
          have t_o0 := hG.t t_o0
          have t_b9 := hG.t t_b9
          have hg := hg.tr hG
          refine lv_iload hx hb dX11_finds_77 (lv_at hl 0 rfl) ?_
          refine lv_if_lt (tgt := 87) hx hb dX11_finds_79 (by decide) (fun c13 => ?_) (fun c13 => ?_)
          · rw [if_pos c13] at h
            refine lv_aload_n hx hb dX11_finds_87 rfl (lv_at hl 1 rfl) ?_
            refine lv_iload_n hx hb dX11_finds_88 rfl (lv_at hl 2 rfl) ?_
            refine lv_iload_n hx hb dX11_finds_89 rfl (lv_at hl 4 rfl) ?_
            refine lv_iload_n hx hb dX11_finds_90 rfl (lv_at hl 3 rfl) ?_
            obtain ⟨q11, h_q11, h⟩ := bb h
            refine z_VI E F hw [.int x1, .int x3, .int x2] (k_X11_freeChoice l D cy kc o0 x1 x3 x2 q10.2 h_q11 t_o0) t_o0 cf11 mk_X11_freeChoice vk_X11_freeChoice ml_X11_403 ⟨by decide, by decide⟩ rfl hl.1 rfl (Nat.le_of_ble_eq_true rfl) dX11_finds_91 ⟨Nat.zero_le _, Nat.zero_le _⟩ (fun H locs hw hG => ?_)
            have t_o0 := hG.t t_o0
            have t_b9 := hG.t t_b9
            have hg := hg.tr hG
            exact J94 x3 b9 q10.1 q11.1 q11.2 _ _ _ h hw hg t_o0 t_b9 (lv_sub hl [1, 2, 3, 4] rfl)
          · rw [if_neg c13] at h
            refine lv_iload hx hb dX11_finds_82 (lv_at hl 0 rfl) ?_
            refine lv_goto (tgt := 94) hx hb dX11_finds_84 (by decide) ?_
            exact J94 x3 b9 q10.1 q8.1 q10.2 _ _ _ h hw hg t_o0 t_b9 (lv_sub hl [1, 2, 3, 4] rfl)
  have L35 : ∀ (o0 : Nat) (x1 : Int32) (n : Nat) (x2 : Int32) (S1 : PS) (o : (Unit × PS) ⊕ (PS)), loopN (fun a => f_X11_finds_b35 o0 x1 a.1 a.2) n (x2, S1) = some o → ∀ (H : Heap) (locs : List Loc) (ls : Array Slot), Wd D cy A s H locs S1 → Gr S S1 → tD S1 o0 11 → lv_has ls 5 [(0, .ref o0), (1, .int x1), (2, .int x2)] → (∀ (S2 : PS), o = .inr (S2) → ∀ (H : Heap) (locs : List Loc) (ls : Array Slot), Wd D cy A s H locs S2 → Gr S1 S2 → lv_has ls 5 [(0, .ref o0), (1, .int x1)] → W p l e (rmK 8 296 0 0) s m args below meth c H locs 0 0 (MQ below (QV D cy S qq.2 s.heap.size) args s 0 0 A) (F0 m 107 ls [])) → (∀ q9, o = .inl q9 → q9 = qq) → W p l e (rmK 8 296 0 0) s m args below meth c H locs 0 0 (MQ below (QV D cy S qq.2 s.heap.size) args s 0 0 A) (F0 m 35 ls []) := by
    intro o0 x1 n
    induction n with
    | zero => intro x2 S1 o h; exact absurd h (by simp [loopN])
    | succ n ih =>
      intro x2 S1 o h H locs ls hw hG0 t_o0 hl hx2 hq2
      have hg : Gr S1 S1 := Gr.rf
      replace h : (f_X11_finds_b35 o0 x1 x2 S1).bind (Sum.elim (loopN (fun a => f_X11_finds_b35 o0 x1 a.1 a.2) n) some) = some o := h
      have J101 : ∀ (z2 : Int32) (S3 : PS) (H : Heap) (locs : List Loc) (ls : Array Slot), (f_X11_finds_101b35 o0 x1 z2 S3).bind (Sum.elim (loopN (fun a => f_X11_finds_b35 o0 x1 a.1 a.2) n) some) = some o → Wd D cy A s H locs S3 → Gr S1 S3 → tD S3 o0 11 → lv_has ls 5 [(0, .ref o0), (1, .int x1), (2, .int z2)] → W p l e (rmK 8 296 0 0) s m args below meth c H locs 0 0 (MQ below (QV D cy S qq.2 s.heap.size) args s 0 0 A) (F0 m 101 ls []) := by
        intro z2 S3 H locs ls h hw hg t_o0 hl
        rw [f_X11_finds_101b35] at h
        refine lv_iinc (v := z2 + 1) (lv' := [(2, .int (z2 + 1)), (0, .ref o0), (1, .int x1)]) hx hb dX11_finds_101 hl (k := 2) rfl rfl (by decide) rfl (fun ls hl => ?_)
        refine lv_goto (tgt := 35) hx hb dX11_finds_104 (by decide) ?_
        exact ih (z2 + 1) S3 _ h _ _ _ hw (hG0.tr hg) t_o0 (lv_sub hl [1, 2, 0] rfl) (fun  S2 he H locs ls hw hG hl => hx2  S2 he H locs ls hw (hg.tr hG) hl) hq2
      rw [f_X11_finds_b35] at h
      refine lv_iload_n hx hb dX11_finds_35 rfl (lv_at hl 2 rfl) ?_
      refine lv_bipush (v := 27) hx hb dX11_finds_36 (by decide) ?_
      refine lv_icmp_ge (tgt := 107) hx hb dX11_finds_38 (by decide) (fun c17 => ?_) (fun c17 => ?_)
      · rw [if_pos c17] at h
        obtain rfl := Option.some.inj h
        exact hx2 S1 rfl _ _ _ hw hg (lv_sub hl [0, 1] rfl)
      · rw [if_neg c17] at h
        refine lv_iconst (v := 0) hx hb dX11_finds_41 (by decide) ?_
        refine lv_istore_n (lv' := [(3, .int (0 : Int32)), (0, .ref o0), (1, .int x1), (2, .int x2)]) hx hb dX11_finds_42 rfl hl (by decide) rfl (fun ls hl => ?_)
        obtain ⟨y16, hy16, h⟩ := bb h
        refine L43 o0 x1 x2 fu (0 : Int32) S1 y16 hy16 _ _ _ hw (hG0.tr hg) t_o0 (lv_sub hl [1, 2, 3, 0] rfl) (fun  S2 he H locs ls hw hG hl => ?_) (fun r he => ?_)
        · subst he
          have t_o0 := hG.t t_o0
          have hg := hg.tr hG
          exact J101 x2 S2 _ _ _ h hw hg t_o0 (lv_sub hl [0, 1, 2] rfl)
        · subst he
          exact hq2 r (Option.some.inj h).symm
  have L117 : ∀ (o0 : Nat) (x1 : Int32) (x2 : Int32) (n : Nat) (x3 : Int32) (S1 : PS) (o : (Unit × PS) ⊕ (PS)), loopN (fun a => f_X11_finds_b117 o0 x1 x2 a.1 a.2) n (x3, S1) = some o → ∀ (H : Heap) (locs : List Loc) (ls : Array Slot), Wd D cy A s H locs S1 → Gr S S1 → tD S1 o0 11 → lv_has ls 5 [(0, .ref o0), (1, .int x1), (2, .int x2), (3, .int x3)] → (∀ (S2 : PS), o = .inr (S2) → ∀ (H : Heap) (locs : List Loc) (ls : Array Slot), Wd D cy A s H locs S2 → Gr S1 S2 → lv_has ls 5 [(0, .ref o0), (1, .int x1), (2, .int x2)] → W p l e (rmK 8 296 0 0) s m args below meth c H locs 0 0 (MQ below (QV D cy S qq.2 s.heap.size) args s 0 0 A) (F0 m 153 ls [])) → (∀ q9, o = .inl q9 → q9 = qq) → W p l e (rmK 8 296 0 0) s m args below meth c H locs 0 0 (MQ below (QV D cy S qq.2 s.heap.size) args s 0 0 A) (F0 m 117 ls []) := by
    intro o0 x1 x2 n
    induction n with
    | zero => intro x3 S1 o h; exact absurd h (by simp [loopN])
    | succ n ih =>
      intro x3 S1 o h H locs ls hw hG0 t_o0 hl hx2 hq2
      have hg : Gr S1 S1 := Gr.rf
      replace h : (f_X11_finds_b117 o0 x1 x2 x3 S1).bind (Sum.elim (loopN (fun a => f_X11_finds_b117 o0 x1 x2 a.1 a.2) n) some) = some o := h
      rw [f_X11_finds_b117] at h
      refine lv_iload_n hx hb dX11_finds_117 rfl (lv_at hl 3 rfl) ?_
      refine lv_bipush (v := 24) hx hb dX11_finds_118 (by decide) ?_
      refine lv_icmp_ge (tgt := 153) hx hb dX11_finds_120 (by decide) (fun c22 => ?_) (fun c22 => ?_)
      · rw [if_pos c22] at h
        obtain rfl := Option.some.inj h
        exact hx2 S1 rfl _ _ _ hw hg (lv_sub hl [0, 1, 2] rfl)
      · rw [if_neg c22] at h
        refine lv_aload_n hx hb dX11_finds_123 rfl (lv_at hl 0 rfl) ?_
        refine lv_iload_n hx hb dX11_finds_124 rfl (lv_at hl 2 rfl) ?_
        obtain ⟨q19, h_q19, h⟩ := bb h
        refine z_VI E F hw [.int x2] (k_X11_isStands l D cy kc o0 x2 S1 h_q19 t_o0) t_o0 cf11 mk_X11_isStands vk_X11_isStands ml_X11_341 ⟨by decide, by decide⟩ rfl hl.1 rfl (Nat.le_of_ble_eq_true rfl) dX11_finds_125 ⟨Nat.zero_le _, Nat.zero_le _⟩ (fun H locs hw hG => ?_)
        have t_o0 := hG.t t_o0
        have hg := hg.tr hG
        refine lv_if_eq (tgt := 153) hx hb dX11_finds_128 (by decide) (fun c21 => ?_) (fun c21 => ?_)
        · rw [if_pos c21] at h
          obtain rfl := Option.some.inj h
          exact hx2 q19.2 rfl _ _ _ hw hg (lv_sub hl [0, 1, 2] rfl)
        · rw [if_neg c21] at h
          refine lv_aload_n hx hb dX11_finds_131 rfl (lv_at hl 0 rfl) ?_
          refine lv_iload_n hx hb dX11_finds_132 rfl (lv_at hl 1 rfl) ?_
          refine lv_iload_n hx hb dX11_finds_133 rfl (lv_at hl 3 rfl) ?_
          refine lv_bipush (v := 6) hx hb dX11_finds_134 (by decide) ?_
          refine lv_idiv hx hb dX11_finds_136 (by decide) ?_
          refine lv_iload_n hx hb dX11_finds_137 rfl (lv_at hl 3 rfl) ?_
          refine lv_bipush (v := 6) hx hb dX11_finds_138 (by decide) ?_
          refine lv_irem hx hb dX11_finds_140 (by decide) ?_
          refine lv_iconst (v := 1) hx hb dX11_finds_141 (by decide) ?_
          refine lv_iadd hx hb dX11_finds_142 ?_
          refine lv_iload_n hx hb dX11_finds_143 rfl (lv_at hl 2 rfl) ?_
          obtain ⟨q20, h_q20, h⟩ := bb h
          refine z_VV E F hw [.int x1, .int (x3 / (6 : Int32)), .int ((x3 - x3 / (6 : Int32) * (6 : Int32)) + (1 : Int32)), .int x2] (k_X11_likelyFor l D cy kc o0 x1 (x3 / (6 : Int32)) ((x3 - x3 / (6 : Int32) * (6 : Int32)) + (1 : Int32)) x2 q19.2 h_q20 t_o0) t_o0 cf11 mk_X11_likelyFor vk_X11_likelyFor ml_X11_406 ⟨by decide, by decide⟩ rfl hl.1 rfl (Nat.le_of_ble_eq_true rfl) dX11_finds_144 ⟨Nat.zero_le _, Nat.zero_le _⟩ (fun H locs hw hG => ?_)
          have t_o0 := hG.t t_o0
          have hg := hg.tr hG
          refine lv_iinc (v := x3 + 1) (lv' := [(3, .int (x3 + 1)), (0, .ref o0), (1, .int x1), (2, .int x2)]) hx hb dX11_finds_147 hl (k := 3) rfl rfl (by decide) rfl (fun ls hl => ?_)
          refine lv_goto (tgt := 117) hx hb dX11_finds_150 (by decide) ?_
          exact ih (x3 + 1) q20.2 _ h _ _ _ hw (hG0.tr hg) t_o0 (lv_sub hl [1, 2, 3, 0] rfl) (fun  S2 he H locs ls hw hG hl => hx2  S2 he H locs ls hw (hg.tr hG) hl) hq2
  have L109 : ∀ (o0 : Nat) (x1 : Int32) (n : Nat) (x2 : Int32) (S1 : PS) (o : (Unit × PS) ⊕ (PS)), loopN (fun a => f_X11_finds_b109 o0 x1 a.1 a.2) n (x2, S1) = some o → ∀ (H : Heap) (locs : List Loc) (ls : Array Slot), Wd D cy A s H locs S1 → Gr S S1 → tD S1 o0 11 → lv_has ls 5 [(0, .ref o0), (1, .int x1), (2, .int x2)] → (∀ (S2 : PS), o = .inr (S2) → ∀ (H : Heap) (locs : List Loc) (ls : Array Slot), Wd D cy A s H locs S2 → Gr S1 S2 → lv_has ls 5 [(0, .ref o0), (1, .int x1)] → W p l e (rmK 8 296 0 0) s m args below meth c H locs 0 0 (MQ below (QV D cy S qq.2 s.heap.size) args s 0 0 A) (F0 m 159 ls [])) → (∀ q9, o = .inl q9 → q9 = qq) → W p l e (rmK 8 296 0 0) s m args below meth c H locs 0 0 (MQ below (QV D cy S qq.2 s.heap.size) args s 0 0 A) (F0 m 109 ls []) := by
    intro o0 x1 n
    induction n with
    | zero => intro x2 S1 o h; exact absurd h (by simp [loopN])
    | succ n ih =>
      intro x2 S1 o h H locs ls hw hG0 t_o0 hl hx2 hq2
      have hg : Gr S1 S1 := Gr.rf
      replace h : (f_X11_finds_b109 o0 x1 x2 S1).bind (Sum.elim (loopN (fun a => f_X11_finds_b109 o0 x1 a.1 a.2) n) some) = some o := h
      have J153 : ∀ (z2 : Int32) (S3 : PS) (H : Heap) (locs : List Loc) (ls : Array Slot), (f_X11_finds_153b109 o0 x1 z2 S3).bind (Sum.elim (loopN (fun a => f_X11_finds_b109 o0 x1 a.1 a.2) n) some) = some o → Wd D cy A s H locs S3 → Gr S1 S3 → tD S3 o0 11 → lv_has ls 5 [(0, .ref o0), (1, .int x1), (2, .int z2)] → W p l e (rmK 8 296 0 0) s m args below meth c H locs 0 0 (MQ below (QV D cy S qq.2 s.heap.size) args s 0 0 A) (F0 m 153 ls []) := by
        intro z2 S3 H locs ls h hw hg t_o0 hl
        rw [f_X11_finds_153b109] at h
        refine lv_iinc (v := z2 + 1) (lv' := [(2, .int (z2 + 1)), (0, .ref o0), (1, .int x1)]) hx hb dX11_finds_153 hl (k := 2) rfl rfl (by decide) rfl (fun ls hl => ?_)
        refine lv_goto (tgt := 109) hx hb dX11_finds_156 (by decide) ?_
        exact ih (z2 + 1) S3 _ h _ _ _ hw (hG0.tr hg) t_o0 (lv_sub hl [1, 2, 0] rfl) (fun  S2 he H locs ls hw hG hl => hx2  S2 he H locs ls hw (hg.tr hG) hl) hq2
      rw [f_X11_finds_b109] at h
      refine lv_iload_n hx hb dX11_finds_109 rfl (lv_at hl 2 rfl) ?_
      refine lv_bipush (v := 27) hx hb dX11_finds_110 (by decide) ?_
      refine lv_icmp_ge (tgt := 159) hx hb dX11_finds_112 (by decide) (fun c24 => ?_) (fun c24 => ?_)
      · rw [if_pos c24] at h
        obtain rfl := Option.some.inj h
        exact hx2 S1 rfl _ _ _ hw hg (lv_sub hl [0, 1] rfl)
      · rw [if_neg c24] at h
        refine lv_iconst (v := 0) hx hb dX11_finds_115 (by decide) ?_
        refine lv_istore_n (lv' := [(3, .int (0 : Int32)), (0, .ref o0), (1, .int x1), (2, .int x2)]) hx hb dX11_finds_116 rfl hl (by decide) rfl (fun ls hl => ?_)
        obtain ⟨y23, hy23, h⟩ := bb h
        refine L117 o0 x1 x2 fu (0 : Int32) S1 y23 hy23 _ _ _ hw (hG0.tr hg) t_o0 (lv_sub hl [1, 2, 3, 0] rfl) (fun  S2 he H locs ls hw hG hl => ?_) (fun r he => ?_)
        · subst he
          have t_o0 := hG.t t_o0
          have hg := hg.tr hG
          exact J153 x2 S2 _ _ _ h hw hg t_o0 (lv_sub hl [0, 1, 2] rfl)
        · subst he
          exact hq2 r (Option.some.inj h).symm
  have L29 : ∀ (o0 : Nat) (n : Nat) (x1 : Int32) (S1 : PS) (o : (Unit × PS) ⊕ (PS)), loopN (fun a => f_X11_finds_b29 o0 a.1 a.2) n (x1, S1) = some o → ∀ (H : Heap) (locs : List Loc) (ls : Array Slot), Wd D cy A s H locs S1 → Gr S S1 → tD S1 o0 11 → lv_has ls 5 [(0, .ref o0), (1, .int x1)] → (∀ (S2 : PS), o = .inr (S2) → ∀ (H : Heap) (locs : List Loc) (ls : Array Slot), Wd D cy A s H locs S2 → Gr S1 S2 → lv_has ls 5 [] → W p l e (rmK 8 296 0 0) s m args below meth c H locs 0 0 (MQ below (QV D cy S qq.2 s.heap.size) args s 0 0 A) (F0 m 165 ls [])) → (∀ q9, o = .inl q9 → q9 = qq) → W p l e (rmK 8 296 0 0) s m args below meth c H locs 0 0 (MQ below (QV D cy S qq.2 s.heap.size) args s 0 0 A) (F0 m 29 ls []) := by
    intro o0 n
    induction n with
    | zero => intro x1 S1 o h; exact absurd h (by simp [loopN])
    | succ n ih =>
      intro x1 S1 o h H locs ls hw hG0 t_o0 hl hx2 hq2
      have hg : Gr S1 S1 := Gr.rf
      replace h : (f_X11_finds_b29 o0 x1 S1).bind (Sum.elim (loopN (fun a => f_X11_finds_b29 o0 a.1 a.2) n) some) = some o := h
      have J159 : ∀ (z1 : Int32) (S3 : PS) (H : Heap) (locs : List Loc) (ls : Array Slot), (f_X11_finds_159b29 o0 z1 S3).bind (Sum.elim (loopN (fun a => f_X11_finds_b29 o0 a.1 a.2) n) some) = some o → Wd D cy A s H locs S3 → Gr S1 S3 → tD S3 o0 11 → lv_has ls 5 [(0, .ref o0), (1, .int z1)] → W p l e (rmK 8 296 0 0) s m args below meth c H locs 0 0 (MQ below (QV D cy S qq.2 s.heap.size) args s 0 0 A) (F0 m 159 ls []) := by
        intro z1 S3 H locs ls h hw hg t_o0 hl
        rw [f_X11_finds_159b29] at h
        refine lv_iinc (v := z1 + (-1)) (lv' := [(1, .int (z1 + (-1))), (0, .ref o0)]) hx hb dX11_finds_159 hl (k := 1) rfl rfl (by decide) rfl (fun ls hl => ?_)
        refine lv_goto (tgt := 29) hx hb dX11_finds_162 (by decide) ?_
        exact ih (z1 + (-1)) S3 _ h _ _ _ hw (hG0.tr hg) t_o0 (lv_sub hl [1, 0] rfl) (fun  S2 he H locs ls hw hG hl => hx2  S2 he H locs ls hw (hg.tr hG) hl) hq2
      have J107 : ∀ (z1 : Int32) (S3 : PS) (H : Heap) (locs : List Loc) (ls : Array Slot), (f_X11_finds_107b29 o0 z1 S3).bind (Sum.elim (loopN (fun a => f_X11_finds_b29 o0 a.1 a.2) n) some) = some o → Wd D cy A s H locs S3 → Gr S1 S3 → tD S3 o0 11 → lv_has ls 5 [(0, .ref o0), (1, .int z1)] → W p l e (rmK 8 296 0 0) s m args below meth c H locs 0 0 (MQ below (QV D cy S qq.2 s.heap.size) args s 0 0 A) (F0 m 107 ls []) := by
        intro z1 S3 H locs ls h hw hg t_o0 hl
        rw [f_X11_finds_107b29] at h
        refine lv_iconst (v := 0) hx hb dX11_finds_107 (by decide) ?_
        refine lv_istore_n (lv' := [(2, .int (0 : Int32)), (0, .ref o0), (1, .int z1)]) hx hb dX11_finds_108 rfl hl (by decide) rfl (fun ls hl => ?_)
        obtain ⟨y25, hy25, h⟩ := bb h
        refine L109 o0 z1 fu (0 : Int32) S3 y25 hy25 _ _ _ hw (hG0.tr hg) t_o0 (lv_sub hl [1, 2, 0] rfl) (fun  S2 he H locs ls hw hG hl => ?_) (fun r he => ?_)
        · subst he
          have t_o0 := hG.t t_o0
          have hg := hg.tr hG
          exact J159 z1 S2 _ _ _ h hw hg t_o0 (lv_sub hl [0, 1] rfl)
        · subst he
          exact hq2 r (Option.some.inj h).symm
      rw [f_X11_finds_b29] at h
      refine lv_iload_n hx hb dX11_finds_29 rfl (lv_at hl 1 rfl) ?_
      refine lv_if_lt (tgt := 165) hx hb dX11_finds_30 (by decide) (fun c26 => ?_) (fun c26 => ?_)
      · rw [if_pos c26] at h
        obtain rfl := Option.some.inj h
        exact hx2 S1 rfl _ _ _ hw hg (lv_sub hl [] rfl)
      · rw [if_neg c26] at h
        refine lv_iconst (v := 0) hx hb dX11_finds_33 (by decide) ?_
        refine lv_istore_n (lv' := [(2, .int (0 : Int32)), (0, .ref o0), (1, .int x1)]) hx hb dX11_finds_34 rfl hl (by decide) rfl (fun ls hl => ?_)
        obtain ⟨y18, hy18, h⟩ := bb h
        refine L35 o0 x1 fu (0 : Int32) S1 y18 hy18 _ _ _ hw (hG0.tr hg) t_o0 (lv_sub hl [1, 2, 0] rfl) (fun  S2 he H locs ls hw hG hl => ?_) (fun r he => ?_)
        · subst he
          have t_o0 := hG.t t_o0
          have hg := hg.tr hG
          exact J107 x1 S2 _ _ _ h hw hg t_o0 (lv_sub hl [0, 1] rfl)
        · subst he
          exact hq2 r (Option.some.inj h).symm
  have J165 : ∀  (S3 : PS) (H : Heap) (locs : List Loc) (ls : Array Slot), (f_X11_finds_165  S3).bind some = some qq → Wd D cy A s H locs S3 → Gr S S3 → lv_has ls 5 [] → W p l e (rmK 8 296 0 0) s m args below meth c H locs 0 0 (MQ below (QV D cy S qq.2 s.heap.size) args s 0 0 A) (F0 m 165 ls []) := by
    intro  S3 H locs ls h hw hg  hl
    rw [f_X11_finds_165] at h
    obtain rfl := Option.some.inj h
    exact r_V E hr hlk F hA hw hg dX11_finds_165
  have J22 : ∀  (S3 : PS) (H : Heap) (locs : List Loc) (ls : Array Slot), (f_X11_finds_22 o0 S3).bind some = some qq → Wd D cy A s H locs S3 → Gr S S3 → tD S3 o0 11 → lv_has ls 5 [(0, .ref o0)] → W p l e (rmK 8 296 0 0) s m args below meth c H locs 0 0 (MQ below (QV D cy S qq.2 s.heap.size) args s 0 0 A) (F0 m 22 ls []) := by
    intro  S3 H locs ls h hw hg t_o0 hl
    rw [f_X11_finds_22] at h
    refine lv_aload_n hx hb dX11_finds_22 rfl (lv_at hl 0 rfl) ?_
    obtain ⟨q5, h_q5, h⟩ := bb h
    refine z_VI E F hw [] (k_X11_springs l D cy kc o0 S3 h_q5 t_o0) t_o0 cf11 mk_X11_springs vk_X11_springs ml_X11_326 ⟨by decide, by decide⟩ rfl hl.1 rfl (Nat.le_of_ble_eq_true rfl) dX11_finds_23 ⟨Nat.zero_le _, Nat.zero_le _⟩ (fun H locs hw hG => ?_)
    have t_o0 := hG.t t_o0
    have hg := hg.tr hG
    refine lv_iconst (v := 1) hx hb dX11_finds_26 (by decide) ?_
    refine lv_isub hx hb dX11_finds_27 ?_
    refine lv_istore_n (lv' := [(1, .int (q5.1 - (1 : Int32))), (0, .ref o0)]) hx hb dX11_finds_28 rfl hl (by decide) rfl (fun ls hl => ?_)
    obtain ⟨y27, hy27, h⟩ := bb h
    refine L29 o0 fu (q5.1 - (1 : Int32)) q5.2 y27 hy27 _ _ _ hw (hg) t_o0 (lv_sub hl [1, 0] rfl) (fun  S2 he H locs ls hw hG hl => ?_) (fun r he => ?_)
    · subst he
      have hg := hg.tr hG
      exact J165  S2 _ _ _ h hw hg  (lv_sub hl [] rfl)
    · subst he
      exact Option.some.inj h
  rw [f_X11_finds] at h
  refine lv_iconst (v := 0) hx hb dX11_finds_0 (by decide) ?_
  refine lv_istore_n (lv' := [(1, .int (0 : Int32)), (0, .ref o0)]) hx hb dX11_finds_1 rfl hl (by decide) rfl (fun ls hl => ?_)
  obtain ⟨y4, hy4, h⟩ := bb h
  refine L2 o0 fu (0 : Int32) S y4 hy4 _ _ _ hw (hg) t_o0 (lv_sub hl [1, 0] rfl) (fun  S2 he H locs ls hw hG hl => ?_) (fun r he => ?_)
  · subst he
    have t_o0 := hG.t t_o0
    have hg := hg.tr hG
    exact J22  S2 _ _ _ h hw hg t_o0 (lv_sub hl [0] rfl)
  · subst he
    exact Option.some.inj h
def f_X11_find_24 (o0 : Nat) (S3 : PS) : Option (Unit × PS) :=
  (f_X11_finds o0 S3).bind fun q1 => some ((), q1.2)
def f_X11_find (o0 : Nat) (S : PS) : Option (Unit × PS) :=
  (if (sI S o0 19) = 0 then some ((), S) else (if (sI (pI S o0 19 (0 : Int32)) o0 20) = 0 then f_X11_find_24 o0 (pI S o0 19 (0 : Int32)) else (f_X11_laysWorths o0 (pI S o0 19 (0 : Int32))).bind fun q2 => f_X11_find_24 o0 q2.2))
set_option maxHeartbeats 4000000 in
set_option maxRecDepth 100000 in
theorem k_X11_find (l : Launch) (D : va_G) (cy : Nat → ClassId) (kc : Nat → Nat) (o0 : Nat) (S : PS) {qq : Unit × PS} (h : f_X11_find o0 S = some qq) (t_o0 : tD S o0 11) : KV l D cy kc yX11_find cX11_find 1 (rmK 9 336 0 0) [.ref o0] S qq.2 := by
  refine K_body (Qc := QV D cy S qq.2) (by decide) (Nat.le_of_ble_eq_true rfl) ?_
  intro p e s m below meth c A ls args E hr hlk hnm hA F hw hl
  have hx := E.1
  have hb := E.2.1
  have hl : lv_has ls 1 [(0, .ref o0)] := hl
  have hg : Gr S S := Gr.rf
  replace h : (f_X11_find o0 S).bind some = some qq := by rw [h]; rfl
  have J24 : ∀  (S3 : PS) (H : Heap) (locs : List Loc) (ls : Array Slot), (f_X11_find_24 o0 S3).bind some = some qq → Wd D cy A s H locs S3 → Gr S S3 → tD S3 o0 11 → lv_has ls 1 [(0, .ref o0)] → W p l e (rmK 9 336 0 0) s m args below meth c H locs 0 0 (MQ below (QV D cy S qq.2 s.heap.size) args s 0 0 A) (F0 m 24 ls []) := by
    intro  S3 H locs ls h hw hg t_o0 hl
    rw [f_X11_find_24] at h
    refine lv_aload_n hx hb dX11_find_24 rfl (lv_at hl 0 rfl) ?_
    obtain ⟨q1, h_q1, h⟩ := bb h
    refine z_VV E F hw [] (k_X11_finds l D cy kc o0 S3 h_q1 t_o0) t_o0 cf11 mk_X11_finds vk_X11_finds ml_X11_394 ⟨by decide, by decide⟩ rfl hl.1 rfl (Nat.le_of_ble_eq_true rfl) dX11_find_25 ⟨Nat.zero_le _, Nat.zero_le _⟩ (fun H locs hw hG => ?_)
    have t_o0 := hG.t t_o0
    have hg := hg.tr hG
    obtain rfl := Option.some.inj h
    exact r_V E hr hlk F hA hw hg dX11_find_28
  rw [f_X11_find] at h
  refine lv_aload_n hx hb dX11_find_0 rfl (lv_at hl 0 rfl) ?_
  refine g_f E F hw t_o0 cf11 fk_X11_163 dX11_find_1 rfl ?_
  refine lv_if_ne (tgt := 8) hx hb dX11_find_4 (by decide) (fun c4 => ?_) (fun c4 => ?_)
  · rw [if_neg c4] at h
    refine lv_aload_n hx hb dX11_find_8 rfl (lv_at hl 0 rfl) ?_
    refine lv_iconst (v := 0) hx hb dX11_find_9 (by decide) ?_
    refine p_I E F hw t_o0 cf11 fk_X11_163 rfl (isB_nar rfl) (isB_fit rfl) dX11_find_10 rfl (fun H locs hw => ?_)
    refine lv_aload_n hx hb dX11_find_13 rfl (lv_at hl 0 rfl) ?_
    refine g_f E F hw t_o0 cf11 fk_X11_167 dX11_find_14 rfl ?_
    refine lv_if_eq (tgt := 24) hx hb dX11_find_17 (by decide) (fun c3 => ?_) (fun c3 => ?_)
    · rw [if_pos c3] at h
      exact J24  (pI S o0 19 (0 : Int32)) _ _ _ h hw hg t_o0 (lv_sub hl [0] rfl)
    · rw [if_neg c3] at h
      refine lv_aload_n hx hb dX11_find_20 rfl (lv_at hl 0 rfl) ?_
      obtain ⟨q2, h_q2, h⟩ := bb h
      refine z_VV E F hw [] (k_X11_laysWorths l D cy kc o0 (pI S o0 19 (0 : Int32)) h_q2 t_o0) t_o0 cf11 mk_X11_laysWorths vk_X11_laysWorths ml_X11_348 ⟨by decide, by decide⟩ rfl hl.1 rfl (Nat.le_of_ble_eq_true rfl) dX11_find_21 ⟨Nat.zero_le _, Nat.zero_le _⟩ (fun H locs hw hG => ?_)
      have t_o0 := hG.t t_o0
      have hg := hg.tr hG
      exact J24  q2.2 _ _ _ h hw hg t_o0 (lv_sub hl [0] rfl)
  · rw [if_pos c4] at h
    obtain rfl := Option.some.inj h
    exact r_V E hr hlk F hA hw hg dX11_find_7
def f_X11_isOne (o0 : Nat) (x1 : Int32) (x2 : Int32) (x3 : Int32) (S : PS) : Option (Int32 × PS) :=
  (f_X11_isSpring o0 x1 S).bind fun q1 => (if q1.1 = 0 then some ((0 : Int32), q1.2) else (f_X11_isSort o0 x2 q1.2).bind fun q2 => (if q2.1 = 0 then some ((0 : Int32), q2.2) else (f_X11_isStands o0 x3 q2.2).bind fun q3 => (if q3.1 = 0 then some ((0 : Int32), q3.2) else some ((1 : Int32), q3.2))))
set_option maxHeartbeats 4000000 in
set_option maxRecDepth 100000 in
theorem k_X11_isOne (l : Launch) (D : va_G) (cy : Nat → ClassId) (kc : Nat → Nat) (o0 : Nat) (x1 : Int32) (x2 : Int32) (x3 : Int32) (S : PS) {qq : Int32 × PS} (h : f_X11_isOne o0 x1 x2 x3 S = some qq) (t_o0 : tD S o0 11) : KI l D cy kc yX11_isOne cX11_isOne 4 .boolean (rmK 3 91 0 0) [.ref o0, .int x1, .int x2, .int x3] S qq.1 qq.2 := by
  refine K_body (Qc := QI D cy S qq.2 qq.1) (by decide) (Nat.le_of_ble_eq_true rfl) ?_
  intro p e s m below meth c A ls args E hr hlk hnm hA F hw hl
  have hx := E.1
  have hb := E.2.1
  have hl : lv_has ls 4 [(0, .ref o0), (1, .int x1), (2, .int x2), (3, .int x3)] := hl
  have hg : Gr S S := Gr.rf
  replace h : (f_X11_isOne o0 x1 x2 x3 S).bind some = some qq := by rw [h]; rfl
  rw [f_X11_isOne] at h
  refine lv_aload_n hx hb dX11_isOne_0 rfl (lv_at hl 0 rfl) ?_
  refine lv_iload_n hx hb dX11_isOne_1 rfl (lv_at hl 1 rfl) ?_
  obtain ⟨q1, h_q1, h⟩ := bb h
  refine z_VI E F hw [.int x1] (k_X11_isSpring l D cy kc o0 x1 S h_q1 t_o0) t_o0 cf11 mk_X11_isSpring vk_X11_isSpring ml_X11_354 ⟨by decide, by decide⟩ rfl hl.1 rfl (Nat.le_of_ble_eq_true rfl) dX11_isOne_2 ⟨Nat.zero_le _, Nat.zero_le _⟩ (fun H locs hw hG => ?_)
  have t_o0 := hG.t t_o0
  have hg := hg.tr hG
  refine lv_if_eq (tgt := 28) hx hb dX11_isOne_5 (by decide) (fun c6 => ?_) (fun c6 => ?_)
  · rw [if_pos c6] at h
    refine lv_iconst (v := 0) hx hb dX11_isOne_28 (by decide) ?_
    obtain rfl := Option.some.inj h
    exact r_Z E hr hlk F hA hw hg rfl dX11_isOne_29
  · rw [if_neg c6] at h
    refine lv_aload_n hx hb dX11_isOne_8 rfl (lv_at hl 0 rfl) ?_
    refine lv_iload_n hx hb dX11_isOne_9 rfl (lv_at hl 2 rfl) ?_
    obtain ⟨q2, h_q2, h⟩ := bb h
    refine z_VI E F hw [.int x2] (k_X11_isSort l D cy kc o0 x2 q1.2 h_q2 t_o0) t_o0 cf11 mk_X11_isSort vk_X11_isSort ml_X11_338 ⟨by decide, by decide⟩ rfl hl.1 rfl (Nat.le_of_ble_eq_true rfl) dX11_isOne_10 ⟨Nat.zero_le _, Nat.zero_le _⟩ (fun H locs hw hG => ?_)
    have t_o0 := hG.t t_o0
    have hg := hg.tr hG
    refine lv_if_eq (tgt := 28) hx hb dX11_isOne_13 (by decide) (fun c5 => ?_) (fun c5 => ?_)
    · rw [if_pos c5] at h
      refine lv_iconst (v := 0) hx hb dX11_isOne_28 (by decide) ?_
      obtain rfl := Option.some.inj h
      exact r_Z E hr hlk F hA hw hg rfl dX11_isOne_29
    · rw [if_neg c5] at h
      refine lv_aload_n hx hb dX11_isOne_16 rfl (lv_at hl 0 rfl) ?_
      refine lv_iload_n hx hb dX11_isOne_17 rfl (lv_at hl 3 rfl) ?_
      obtain ⟨q3, h_q3, h⟩ := bb h
      refine z_VI E F hw [.int x3] (k_X11_isStands l D cy kc o0 x3 q2.2 h_q3 t_o0) t_o0 cf11 mk_X11_isStands vk_X11_isStands ml_X11_341 ⟨by decide, by decide⟩ rfl hl.1 rfl (Nat.le_of_ble_eq_true rfl) dX11_isOne_18 ⟨Nat.zero_le _, Nat.zero_le _⟩ (fun H locs hw hG => ?_)
      have t_o0 := hG.t t_o0
      have hg := hg.tr hG
      refine lv_if_eq (tgt := 28) hx hb dX11_isOne_21 (by decide) (fun c4 => ?_) (fun c4 => ?_)
      · rw [if_pos c4] at h
        refine lv_iconst (v := 0) hx hb dX11_isOne_28 (by decide) ?_
        obtain rfl := Option.some.inj h
        exact r_Z E hr hlk F hA hw hg rfl dX11_isOne_29
      · rw [if_neg c4] at h
        refine lv_iconst (v := 1) hx hb dX11_isOne_24 (by decide) ?_
        refine lv_goto (tgt := 29) hx hb dX11_isOne_25 (by decide) ?_
        obtain rfl := Option.some.inj h
        exact r_Z E hr hlk F hA hw hg rfl dX11_isOne_29
def f_X11_plain_b6 (o0 : Nat) (x1 : Int32) (x2 : Int32) (x3 : Int32) (x4 : Int32) (x5 : Int32) (x6 : Int32) (S1 : PS) : Option ((Int32 × Int32 × PS) ⊕ ((Int32 × PS) ⊕ (Int32 × PS))) :=
  (f_X11_left o0 x1 x3 S1).bind fun q1 => (if q1.1 ≤ x6 then some (.inr (.inr (x5, q1.2))) else (f_X11_worthBy o0 x2 x4 (x3 + x6) (x1 + x6) q1.2).bind fun q2 => some (.inl ((x5 + q2.1), x6 + 1, q2.2)))
def f_X11_plain_43 (z5 : Int32) (S3 : PS) : Option (Int32 × PS) :=
  some (z5, S3)
def f_X11_plain (o0 : Nat) (x1 : Int32) (x2 : Int32) (x3 : Int32) (x4 : Int32) (S : PS) : Option (Int32 × PS) :=
  (loopN (fun a => f_X11_plain_b6 o0 x1 x2 x3 x4 a.1 a.2.1 a.2.2) fu ((0 : Int32), (0 : Int32), S)).bind (Sum.elim (fun r => some r) (fun a => f_X11_plain_43 a.1 a.2))
set_option maxHeartbeats 4000000 in
set_option maxRecDepth 100000 in
theorem k_X11_plain (l : Launch) (D : va_G) (cy : Nat → ClassId) (kc : Nat → Nat) (o0 : Nat) (x1 : Int32) (x2 : Int32) (x3 : Int32) (x4 : Int32) (S : PS) {qq : Int32 × PS} (h : f_X11_plain o0 x1 x2 x3 x4 S = some qq) (t_o0 : tD S o0 11) : KI l D cy kc yX11_plain cX11_plain 7 .int (rmK 3 87 0 0) [.ref o0, .int x1, .int x2, .int x3, .int x4] S qq.1 qq.2 := by
  refine K_body (Qc := QI D cy S qq.2 qq.1) (by decide) (Nat.le_of_ble_eq_true rfl) ?_
  intro p e s m below meth c A ls args E hr hlk hnm hA F hw hl
  have hx := E.1
  have hb := E.2.1
  have hl : lv_has ls 7 [(0, .ref o0), (1, .int x1), (2, .int x2), (3, .int x3), (4, .int x4)] := hl
  have hg : Gr S S := Gr.rf
  replace h : (f_X11_plain o0 x1 x2 x3 x4 S).bind some = some qq := by rw [h]; rfl
  have L6 : ∀ (o0 : Nat) (x1 : Int32) (x2 : Int32) (x3 : Int32) (x4 : Int32) (n : Nat) (x5 : Int32) (x6 : Int32) (S1 : PS) (o : (Int32 × PS) ⊕ (Int32 × PS)), loopN (fun a => f_X11_plain_b6 o0 x1 x2 x3 x4 a.1 a.2.1 a.2.2) n (x5, x6, S1) = some o → ∀ (H : Heap) (locs : List Loc) (ls : Array Slot), Wd D cy A s H locs S1 → Gr S S1 → tD S1 o0 11 → lv_has ls 7 [(0, .ref o0), (1, .int x1), (2, .int x2), (3, .int x3), (4, .int x4), (5, .int x5), (6, .int x6)] → (∀ (e0 : Int32) (S2 : PS), o = .inr (e0, S2) → ∀ (H : Heap) (locs : List Loc) (ls : Array Slot), Wd D cy A s H locs S2 → Gr S1 S2 → lv_has ls 7 [(5, .int e0)] → W p l e (rmK 3 87 0 0) s m args below meth c H locs 0 0 (MQ below (QI D cy S qq.2 qq.1 s.heap.size) args s 0 0 A) (F0 m 43 ls [])) → (∀ q9, o = .inl q9 → q9 = qq) → W p l e (rmK 3 87 0 0) s m args below meth c H locs 0 0 (MQ below (QI D cy S qq.2 qq.1 s.heap.size) args s 0 0 A) (F0 m 6 ls []) := by
    intro o0 x1 x2 x3 x4 n
    induction n with
    | zero => intro x5 x6 S1 o h; exact absurd h (by simp [loopN])
    | succ n ih =>
      intro x5 x6 S1 o h H locs ls hw hG0 t_o0 hl hx2 hq2
      have hg : Gr S1 S1 := Gr.rf
      replace h : (f_X11_plain_b6 o0 x1 x2 x3 x4 x5 x6 S1).bind (Sum.elim (loopN (fun a => f_X11_plain_b6 o0 x1 x2 x3 x4 a.1 a.2.1 a.2.2) n) some) = some o := h
      rw [f_X11_plain_b6] at h
      refine lv_iload hx hb dX11_plain_6 (lv_at hl 6 rfl) ?_
      refine lv_aload_n hx hb dX11_plain_8 rfl (lv_at hl 0 rfl) ?_
      refine lv_iload_n hx hb dX11_plain_9 rfl (lv_at hl 1 rfl) ?_
      refine lv_iload_n hx hb dX11_plain_10 rfl (lv_at hl 3 rfl) ?_
      obtain ⟨q1, h_q1, h⟩ := bb h
      refine z_VI E F hw [.int x1, .int x3] (k_X11_left l D cy kc o0 x1 x3 S1 h_q1 t_o0) t_o0 cf11 mk_X11_left vk_X11_left ml_X11_374 ⟨by decide, by decide⟩ rfl hl.1 rfl (Nat.le_of_ble_eq_true rfl) dX11_plain_11 ⟨Nat.zero_le _, Nat.zero_le _⟩ (fun H locs hw hG => ?_)
      have t_o0 := hG.t t_o0
      have hg := hg.tr hG
      refine lv_icmp_ge (tgt := 43) hx hb dX11_plain_14 (by decide) (fun c3 => ?_) (fun c3 => ?_)
      · rw [if_pos c3] at h
        obtain rfl := Option.some.inj h
        exact hx2 x5 q1.2 rfl _ _ _ hw hg (lv_sub hl [5] rfl)
      · rw [if_neg c3] at h
        refine lv_iload hx hb dX11_plain_17 (lv_at hl 5 rfl) ?_
        refine lv_aload_n hx hb dX11_plain_19 rfl (lv_at hl 0 rfl) ?_
        refine lv_iload_n hx hb dX11_plain_20 rfl (lv_at hl 2 rfl) ?_
        refine lv_iload hx hb dX11_plain_21 (lv_at hl 4 rfl) ?_
        refine lv_iload_n hx hb dX11_plain_23 rfl (lv_at hl 3 rfl) ?_
        refine lv_iload hx hb dX11_plain_24 (lv_at hl 6 rfl) ?_
        refine lv_iadd hx hb dX11_plain_26 ?_
        refine lv_iload_n hx hb dX11_plain_27 rfl (lv_at hl 1 rfl) ?_
        refine lv_iload hx hb dX11_plain_28 (lv_at hl 6 rfl) ?_
        refine lv_iadd hx hb dX11_plain_30 ?_
        obtain ⟨q2, h_q2, h⟩ := bb h
        refine z_VI E F hw [.int x2, .int x4, .int (x3 + x6), .int (x1 + x6)] (k_X11_worthBy l D cy kc o0 x2 x4 (x3 + x6) (x1 + x6) q1.2 h_q2 t_o0) t_o0 cf11 mk_X11_worthBy vk_X11_worthBy ml_X11_371 ⟨by decide, by decide⟩ rfl hl.1 rfl (Nat.le_of_ble_eq_true rfl) dX11_plain_31 ⟨Nat.zero_le _, Nat.zero_le _⟩ (fun H locs hw hG => ?_)
        have t_o0 := hG.t t_o0
        have hg := hg.tr hG
        refine lv_iadd hx hb dX11_plain_34 ?_
        refine lv_istore (lv' := [(5, .int (x5 + q2.1)), (0, .ref o0), (1, .int x1), (2, .int x2), (3, .int x3), (4, .int x4), (6, .int x6)]) hx hb dX11_plain_35 hl (by decide) rfl (fun ls hl => ?_)
        refine lv_iinc (v := x6 + 1) (lv' := [(6, .int (x6 + 1)), (5, .int (x5 + q2.1)), (0, .ref o0), (1, .int x1), (2, .int x2), (3, .int x3), (4, .int x4)]) hx hb dX11_plain_37 hl (k := 6) rfl rfl (by decide) rfl (fun ls hl => ?_)
        refine lv_goto (tgt := 6) hx hb dX11_plain_40 (by decide) ?_
        exact ih (x5 + q2.1) (x6 + 1) q2.2 _ h _ _ _ hw (hG0.tr hg) t_o0 (lv_sub hl [2, 3, 4, 5, 6, 1, 0] rfl) (fun e0 S2 he H locs ls hw hG hl => hx2 e0 S2 he H locs ls hw (hg.tr hG) hl) hq2
  have J43 : ∀ (z5 : Int32) (S3 : PS) (H : Heap) (locs : List Loc) (ls : Array Slot), (f_X11_plain_43 z5 S3).bind some = some qq → Wd D cy A s H locs S3 → Gr S S3 → lv_has ls 7 [(5, .int z5)] → W p l e (rmK 3 87 0 0) s m args below meth c H locs 0 0 (MQ below (QI D cy S qq.2 qq.1 s.heap.size) args s 0 0 A) (F0 m 43 ls []) := by
    intro z5 S3 H locs ls h hw hg  hl
    rw [f_X11_plain_43] at h
    refine lv_iload hx hb dX11_plain_43 (lv_at hl 0 rfl) ?_
    obtain rfl := Option.some.inj h
    exact r_I E hr hlk F hA hw hg dX11_plain_45
  rw [f_X11_plain] at h
  refine lv_iconst (v := 0) hx hb dX11_plain_0 (by decide) ?_
  refine lv_istore (lv' := [(5, .int (0 : Int32)), (0, .ref o0), (1, .int x1), (2, .int x2), (3, .int x3), (4, .int x4)]) hx hb dX11_plain_1 hl (by decide) rfl (fun ls hl => ?_)
  refine lv_iconst (v := 0) hx hb dX11_plain_3 (by decide) ?_
  refine lv_istore (lv' := [(6, .int (0 : Int32)), (5, .int (0 : Int32)), (0, .ref o0), (1, .int x1), (2, .int x2), (3, .int x3), (4, .int x4)]) hx hb dX11_plain_4 hl (by decide) rfl (fun ls hl => ?_)
  obtain ⟨y4, hy4, h⟩ := bb h
  refine L6 o0 x1 x2 x3 x4 fu (0 : Int32) (0 : Int32) S y4 hy4 _ _ _ hw (hg) t_o0 (lv_sub hl [2, 3, 4, 5, 6, 1, 0] rfl) (fun e0 S2 he H locs ls hw hG hl => ?_) (fun r he => ?_)
  · subst he
    have hg := hg.tr hG
    exact J43 e0 S2 _ _ _ h hw hg  (lv_sub hl [0] rfl)
  · subst he
    exact Option.some.inj h
def f_X11_plainChoice_b18 (o0 : Nat) (x1 : Int32) (x2 : Int32) (x3 : Int32) (x4 : Int32) (x5 : Int32) (x6 : Int32) (x7 : Int32) (S1 : PS) : Option ((Int32 × Int32 × Int32 × PS) ⊕ ((Int32 × PS) ⊕ (Int32 × PS))) :=
  (if (10 : Int32) ≤ x7 then some (.inr (.inr (x5, S1))) else (f_X11_act o0 x1 x4 x7 S1).bind fun q2 => (if q2.1 < 0 then some (.inl (x5, x6, x7 + 1, q2.2)) else (f_X11_plain o0 x1 x2 x3 q2.1 q2.2).bind fun q3 => (f_X11_costOf o0 x4 q2.1 q3.2).bind fun q4 => (if (q3.1 - q4.1) ≤ x6 then some (.inl (x5, x6, x7 + 1, q4.2)) else (f_X11_plain o0 x1 x2 x3 q2.1 q4.2).bind fun q5 => (f_X11_costOf o0 x4 q2.1 q5.2).bind fun q6 => some (.inl (q2.1, (q5.1 - q6.1), x7 + 1, q6.2)))))
def f_X11_plainChoice_94 (z5 : Int32) (S3 : PS) : Option (Int32 × PS) :=
  some (z5, S3)
def f_X11_plainChoice (o0 : Nat) (x1 : Int32) (x2 : Int32) (x3 : Int32) (x4 : Int32) (S : PS) : Option (Int32 × PS) :=
  (f_X11_plain o0 x1 x2 x3 x4 S).bind fun q1 => (loopN (fun a => f_X11_plainChoice_b18 o0 x1 x2 x3 x4 a.1 a.2.1 a.2.2.1 a.2.2.2) fu (x4, q1.1, (1 : Int32), q1.2)).bind (Sum.elim (fun r => some r) (fun a => f_X11_plainChoice_94 a.1 a.2))
set_option maxHeartbeats 4000000 in
set_option maxRecDepth 100000 in
theorem k_X11_plainChoice (l : Launch) (D : va_G) (cy : Nat → ClassId) (kc : Nat → Nat) (o0 : Nat) (x1 : Int32) (x2 : Int32) (x3 : Int32) (x4 : Int32) (S : PS) {qq : Int32 × PS} (h : f_X11_plainChoice o0 x1 x2 x3 x4 S = some qq) (t_o0 : tD S o0 11) : KI l D cy kc yX11_plainChoice cX11_plainChoice 9 .int (rmK 7 254 0 0) [.ref o0, .int x1, .int x2, .int x3, .int x4] S qq.1 qq.2 := by
  refine K_body (Qc := QI D cy S qq.2 qq.1) (by decide) (Nat.le_of_ble_eq_true rfl) ?_
  intro p e s m below meth c A ls args E hr hlk hnm hA F hw hl
  have hx := E.1
  have hb := E.2.1
  have hl : lv_has ls 9 [(0, .ref o0), (1, .int x1), (2, .int x2), (3, .int x3), (4, .int x4)] := hl
  have hg : Gr S S := Gr.rf
  replace h : (f_X11_plainChoice o0 x1 x2 x3 x4 S).bind some = some qq := by rw [h]; rfl
  have L18 : ∀ (o0 : Nat) (x1 : Int32) (x2 : Int32) (x3 : Int32) (x4 : Int32) (n : Nat) (x5 : Int32) (x6 : Int32) (x7 : Int32) (S1 : PS) (o : (Int32 × PS) ⊕ (Int32 × PS)), loopN (fun a => f_X11_plainChoice_b18 o0 x1 x2 x3 x4 a.1 a.2.1 a.2.2.1 a.2.2.2) n (x5, x6, x7, S1) = some o → ∀ (H : Heap) (locs : List Loc) (ls : Array Slot), Wd D cy A s H locs S1 → Gr S S1 → tD S1 o0 11 → lv_has ls 9 [(0, .ref o0), (1, .int x1), (2, .int x2), (3, .int x3), (4, .int x4), (5, .int x5), (6, .int x6), (7, .int x7)] → (∀ (e0 : Int32) (S2 : PS), o = .inr (e0, S2) → ∀ (H : Heap) (locs : List Loc) (ls : Array Slot), Wd D cy A s H locs S2 → Gr S1 S2 → lv_has ls 9 [(5, .int e0)] → W p l e (rmK 7 254 0 0) s m args below meth c H locs 0 0 (MQ below (QI D cy S qq.2 qq.1 s.heap.size) args s 0 0 A) (F0 m 94 ls [])) → (∀ q9, o = .inl q9 → q9 = qq) → W p l e (rmK 7 254 0 0) s m args below meth c H locs 0 0 (MQ below (QI D cy S qq.2 qq.1 s.heap.size) args s 0 0 A) (F0 m 18 ls []) := by
    intro o0 x1 x2 x3 x4 n
    induction n with
    | zero => intro x5 x6 x7 S1 o h; exact absurd h (by simp [loopN])
    | succ n ih =>
      intro x5 x6 x7 S1 o h H locs ls hw hG0 t_o0 hl hx2 hq2
      have hg : Gr S1 S1 := Gr.rf
      replace h : (f_X11_plainChoice_b18 o0 x1 x2 x3 x4 x5 x6 x7 S1).bind (Sum.elim (loopN (fun a => f_X11_plainChoice_b18 o0 x1 x2 x3 x4 a.1 a.2.1 a.2.2.1 a.2.2.2) n) some) = some o := h
      rw [f_X11_plainChoice_b18] at h
      refine lv_iload hx hb dX11_plainChoice_18 (lv_at hl 7 rfl) ?_
      refine lv_bipush (v := 10) hx hb dX11_plainChoice_20 (by decide) ?_
      refine lv_icmp_ge (tgt := 94) hx hb dX11_plainChoice_22 (by decide) (fun c9 => ?_) (fun c9 => ?_)
      · rw [if_pos c9] at h
        obtain rfl := Option.some.inj h
        exact hx2 x5 S1 rfl _ _ _ hw hg (lv_sub hl [5] rfl)
      · rw [if_neg c9] at h
        refine lv_aload_n hx hb dX11_plainChoice_25 rfl (lv_at hl 0 rfl) ?_
        refine lv_iload_n hx hb dX11_plainChoice_26 rfl (lv_at hl 1 rfl) ?_
        refine lv_iload hx hb dX11_plainChoice_27 (lv_at hl 4 rfl) ?_
        refine lv_iload hx hb dX11_plainChoice_29 (lv_at hl 7 rfl) ?_
        obtain ⟨q2, h_q2, h⟩ := bb h
        refine z_VI E F hw [.int x1, .int x4, .int x7] (k_X11_act l D cy kc o0 x1 x4 x7 S1 h_q2 t_o0) t_o0 cf11 mk_X11_act vk_X11_act ml_X11_387 ⟨by decide, by decide⟩ rfl hl.1 rfl (Nat.le_of_ble_eq_true rfl) dX11_plainChoice_31 ⟨Nat.zero_le _, Nat.zero_le _⟩ (fun H locs hw hG => ?_)
        have t_o0 := hG.t t_o0
        have hg := hg.tr hG
        refine lv_istore (lv' := [(8, .int q2.1), (0, .ref o0), (1, .int x1), (2, .int x2), (3, .int x3), (4, .int x4), (5, .int x5), (6, .int x6), (7, .int x7)]) hx hb dX11_plainChoice_34 hl (by decide) rfl (fun ls hl => ?_)
        refine lv_iload hx hb dX11_plainChoice_36 (lv_at hl 0 rfl) ?_
        refine lv_if_lt (tgt := 88) hx hb dX11_plainChoice_38 (by decide) (fun c8 => ?_) (fun c8 => ?_)
        · rw [if_pos c8] at h
          refine lv_iinc (v := x7 + 1) (lv' := [(7, .int (x7 + 1)), (8, .int q2.1), (0, .ref o0), (1, .int x1), (2, .int x2), (3, .int x3), (4, .int x4), (5, .int x5), (6, .int x6)]) hx hb dX11_plainChoice_88 hl (k := 8) rfl rfl (by decide) rfl (fun ls hl => ?_)
          refine lv_goto (tgt := 18) hx hb dX11_plainChoice_91 (by decide) ?_
          exact ih x5 x6 (x7 + 1) q2.2 _ h _ _ _ hw (hG0.tr hg) t_o0 (lv_sub hl [2, 3, 4, 5, 6, 7, 8, 0] rfl) (fun e0 S2 he H locs ls hw hG hl => hx2 e0 S2 he H locs ls hw (hg.tr hG) hl) hq2
        · rw [if_neg c8] at h
          refine lv_aload_n hx hb dX11_plainChoice_41 rfl (lv_at hl 1 rfl) ?_
          refine lv_iload_n hx hb dX11_plainChoice_42 rfl (lv_at hl 2 rfl) ?_
          refine lv_iload_n hx hb dX11_plainChoice_43 rfl (lv_at hl 3 rfl) ?_
          refine lv_iload_n hx hb dX11_plainChoice_44 rfl (lv_at hl 4 rfl) ?_
          refine lv_iload hx hb dX11_plainChoice_45 (lv_at hl 0 rfl) ?_
          obtain ⟨q3, h_q3, h⟩ := bb h
          refine z_VI E F hw [.int x1, .int x2, .int x3, .int q2.1] (k_X11_plain l D cy kc o0 x1 x2 x3 q2.1 q2.2 h_q3 t_o0) t_o0 cf11 mk_X11_plain vk_X11_plain ml_X11_413 ⟨by decide, by decide⟩ rfl hl.1 rfl (Nat.le_of_ble_eq_true rfl) dX11_plainChoice_47 ⟨Nat.zero_le _, Nat.zero_le _⟩ (fun H locs hw hG => ?_)
          have t_o0 := hG.t t_o0
          have hg := hg.tr hG
          refine lv_aload_n hx hb dX11_plainChoice_50 rfl (lv_at hl 1 rfl) ?_
          refine lv_iload hx hb dX11_plainChoice_51 (lv_at hl 5 rfl) ?_
          refine lv_iload hx hb dX11_plainChoice_53 (lv_at hl 0 rfl) ?_
          obtain ⟨q4, h_q4, h⟩ := bb h
          refine z_VI E F hw [.int x4, .int q2.1] (k_X11_costOf l D cy kc o0 x4 q2.1 q3.2 h_q4 t_o0) t_o0 cf11 mk_X11_costOf vk_X11_costOf ml_X11_384 ⟨by decide, by decide⟩ rfl hl.1 rfl (Nat.le_of_ble_eq_true rfl) dX11_plainChoice_55 ⟨Nat.zero_le _, Nat.zero_le _⟩ (fun H locs hw hG => ?_)
          have t_o0 := hG.t t_o0
          have hg := hg.tr hG
          refine lv_isub hx hb dX11_plainChoice_58 ?_
          refine lv_iload hx hb dX11_plainChoice_59 (lv_at hl 7 rfl) ?_
          refine lv_icmp_le (tgt := 88) hx hb dX11_plainChoice_61 (by decide) (fun c7 => ?_) (fun c7 => ?_)
          · rw [if_pos c7] at h
            refine lv_iinc (v := x7 + 1) (lv' := [(7, .int (x7 + 1)), (8, .int q2.1), (0, .ref o0), (1, .int x1), (2, .int x2), (3, .int x3), (4, .int x4), (5, .int x5), (6, .int x6)]) hx hb dX11_plainChoice_88 hl (k := 8) rfl rfl (by decide) rfl (fun ls hl => ?_)
            refine lv_goto (tgt := 18) hx hb dX11_plainChoice_91 (by decide) ?_
            exact ih x5 x6 (x7 + 1) q4.2 _ h _ _ _ hw (hG0.tr hg) t_o0 (lv_sub hl [2, 3, 4, 5, 6, 7, 8, 0] rfl) (fun e0 S2 he H locs ls hw hG hl => hx2 e0 S2 he H locs ls hw (hg.tr hG) hl) hq2
          · rw [if_neg c7] at h
            refine lv_aload_n hx hb dX11_plainChoice_64 rfl (lv_at hl 1 rfl) ?_
            refine lv_iload_n hx hb dX11_plainChoice_65 rfl (lv_at hl 2 rfl) ?_
            refine lv_iload_n hx hb dX11_plainChoice_66 rfl (lv_at hl 3 rfl) ?_
            refine lv_iload_n hx hb dX11_plainChoice_67 rfl (lv_at hl 4 rfl) ?_
            refine lv_iload hx hb dX11_plainChoice_68 (lv_at hl 0 rfl) ?_
            obtain ⟨q5, h_q5, h⟩ := bb h
            refine z_VI E F hw [.int x1, .int x2, .int x3, .int q2.1] (k_X11_plain l D cy kc o0 x1 x2 x3 q2.1 q4.2 h_q5 t_o0) t_o0 cf11 mk_X11_plain vk_X11_plain ml_X11_413 ⟨by decide, by decide⟩ rfl hl.1 rfl (Nat.le_of_ble_eq_true rfl) dX11_plainChoice_70 ⟨Nat.zero_le _, Nat.zero_le _⟩ (fun H locs hw hG => ?_)
            have t_o0 := hG.t t_o0
            have hg := hg.tr hG
            refine lv_aload_n hx hb dX11_plainChoice_73 rfl (lv_at hl 1 rfl) ?_
            refine lv_iload hx hb dX11_plainChoice_74 (lv_at hl 5 rfl) ?_
            refine lv_iload hx hb dX11_plainChoice_76 (lv_at hl 0 rfl) ?_
            obtain ⟨q6, h_q6, h⟩ := bb h
            refine z_VI E F hw [.int x4, .int q2.1] (k_X11_costOf l D cy kc o0 x4 q2.1 q5.2 h_q6 t_o0) t_o0 cf11 mk_X11_costOf vk_X11_costOf ml_X11_384 ⟨by decide, by decide⟩ rfl hl.1 rfl (Nat.le_of_ble_eq_true rfl) dX11_plainChoice_78 ⟨Nat.zero_le _, Nat.zero_le _⟩ (fun H locs hw hG => ?_)
            have t_o0 := hG.t t_o0
            have hg := hg.tr hG
            refine lv_isub hx hb dX11_plainChoice_81 ?_
            refine lv_istore (lv' := [(6, .int (q5.1 - q6.1)), (8, .int q2.1), (0, .ref o0), (1, .int x1), (2, .int x2), (3, .int x3), (4, .int x4), (5, .int x5), (7, .int x7)]) hx hb dX11_plainChoice_82 hl (by decide) rfl (fun ls hl => ?_)
            refine lv_iload hx hb dX11_plainChoice_84 (lv_at hl 1 rfl) ?_
            refine lv_istore (lv' := [(5, .int q2.1), (6, .int (q5.1 - q6.1)), (8, .int q2.1), (0, .ref o0), (1, .int x1), (2, .int x2), (3, .int x3), (4, .int x4), (7, .int x7)]) hx hb dX11_plainChoice_86 hl (by decide) rfl (fun ls hl => ?_)
            refine lv_iinc (v := x7 + 1) (lv' := [(7, .int (x7 + 1)), (5, .int q2.1), (6, .int (q5.1 - q6.1)), (8, .int q2.1), (0, .ref o0), (1, .int x1), (2, .int x2), (3, .int x3), (4, .int x4)]) hx hb dX11_plainChoice_88 hl (k := 8) rfl rfl (by decide) rfl (fun ls hl => ?_)
            refine lv_goto (tgt := 18) hx hb dX11_plainChoice_91 (by decide) ?_
            exact ih q2.1 (q5.1 - q6.1) (x7 + 1) q6.2 _ h _ _ _ hw (hG0.tr hg) t_o0 (lv_sub hl [4, 5, 6, 7, 8, 1, 2, 0] rfl) (fun e0 S2 he H locs ls hw hG hl => hx2 e0 S2 he H locs ls hw (hg.tr hG) hl) hq2
  have J94 : ∀ (z5 : Int32) (S3 : PS) (H : Heap) (locs : List Loc) (ls : Array Slot), (f_X11_plainChoice_94 z5 S3).bind some = some qq → Wd D cy A s H locs S3 → Gr S S3 → lv_has ls 9 [(5, .int z5)] → W p l e (rmK 7 254 0 0) s m args below meth c H locs 0 0 (MQ below (QI D cy S qq.2 qq.1 s.heap.size) args s 0 0 A) (F0 m 94 ls []) := by
    intro z5 S3 H locs ls h hw hg  hl
    rw [f_X11_plainChoice_94] at h
    refine lv_iload hx hb dX11_plainChoice_94 (lv_at hl 0 rfl) ?_
    obtain rfl := Option.some.inj h
    exact r_I E hr hlk F hA hw hg dX11_plainChoice_96
  rw [f_X11_plainChoice] at h
  refine lv_iload hx hb dX11_plainChoice_0 (lv_at hl 4 rfl) ?_
  refine lv_istore (lv' := [(5, .int x4), (0, .ref o0), (1, .int x1), (2, .int x2), (3, .int x3), (4, .int x4)]) hx hb dX11_plainChoice_2 hl (by decide) rfl (fun ls hl => ?_)
  refine lv_aload_n hx hb dX11_plainChoice_4 rfl (lv_at hl 1 rfl) ?_
  refine lv_iload_n hx hb dX11_plainChoice_5 rfl (lv_at hl 2 rfl) ?_
  refine lv_iload_n hx hb dX11_plainChoice_6 rfl (lv_at hl 3 rfl) ?_
  refine lv_iload_n hx hb dX11_plainChoice_7 rfl (lv_at hl 4 rfl) ?_
  refine lv_iload hx hb dX11_plainChoice_8 (lv_at hl 5 rfl) ?_
  obtain ⟨q1, h_q1, h⟩ := bb h
  refine z_VI E F hw [.int x1, .int x2, .int x3, .int x4] (k_X11_plain l D cy kc o0 x1 x2 x3 x4 S h_q1 t_o0) t_o0 cf11 mk_X11_plain vk_X11_plain ml_X11_413 ⟨by decide, by decide⟩ rfl hl.1 rfl (Nat.le_of_ble_eq_true rfl) dX11_plainChoice_10 ⟨Nat.zero_le _, Nat.zero_le _⟩ (fun H locs hw hG => ?_)
  have t_o0 := hG.t t_o0
  have hg := hg.tr hG
  refine lv_istore (lv' := [(6, .int q1.1), (5, .int x4), (0, .ref o0), (1, .int x1), (2, .int x2), (3, .int x3), (4, .int x4)]) hx hb dX11_plainChoice_13 hl (by decide) rfl (fun ls hl => ?_)
  refine lv_iconst (v := 1) hx hb dX11_plainChoice_15 (by decide) ?_
  refine lv_istore (lv' := [(7, .int (1 : Int32)), (6, .int q1.1), (5, .int x4), (0, .ref o0), (1, .int x1), (2, .int x2), (3, .int x3), (4, .int x4)]) hx hb dX11_plainChoice_16 hl (by decide) rfl (fun ls hl => ?_)
  obtain ⟨y10, hy10, h⟩ := bb h
  refine L18 o0 x1 x2 x3 x4 fu x4 q1.1 (1 : Int32) q1.2 y10 hy10 _ _ _ hw (hg) t_o0 (lv_sub hl [3, 4, 5, 6, 7, 2, 1, 0] rfl) (fun e0 S2 he H locs ls hw hG hl => ?_) (fun r he => ?_)
  · subst he
    have hg := hg.tr hG
    exact J94 e0 S2 _ _ _ h hw hg  (lv_sub hl [0] rfl)
  · subst he
    exact Option.some.inj h
def f_X11_chooses (o0 : Nat) (x1 : Int32) (x2 : Int32) (x3 : Int32) (x4 : Int32) (S : PS) : Option (Int32 × PS) :=
  (f_X11_isOne o0 x1 x2 x3 (pI S o0 0 (0 : Int32))).bind fun q1 => (if q1.1 = 0 then some ((-1 : Int32), q1.2) else (f_X11_find o0 q1.2).bind fun q2 => (if x4 = 0 then (f_X11_plainChoice o0 x1 x2 (0 : Int32) x3 q2.2).bind fun q3 => some (q3.1, q3.2) else (rk q2.2 (sR q2.2 o0 25) 13).bind fun b4 => (f_X11_doesAt x1 x2 x3 q2.2).bind fun q5 => if ib q5.1 (sN q5.2 b4) = true then some ((sI q5.2 b4 (Int32.toNatClampNeg q5.1)), q5.2) else none))
set_option maxHeartbeats 4000000 in
set_option maxRecDepth 100000 in
theorem k_X11_chooses (l : Launch) (D : va_G) (cy : Nat → ClassId) (kc : Nat → Nat) (o0 : Nat) (x1 : Int32) (x2 : Int32) (x3 : Int32) (x4 : Int32) (S : PS) {qq : Int32 × PS} (h : f_X11_chooses o0 x1 x2 x3 x4 S = some qq) (t_o0 : tD S o0 11) : KI l D cy kc yX11_chooses cX11_chooses 5 .int (rmK 10 372 0 0) [.ref o0, .int x1, .int x2, .int x3, .int x4] S qq.1 qq.2 := by
  refine K_body (Qc := QI D cy S qq.2 qq.1) (by decide) (Nat.le_of_ble_eq_true rfl) ?_
  intro p e s m below meth c A ls args E hr hlk hnm hA F hw hl
  have hx := E.1
  have hb := E.2.1
  have hl : lv_has ls 5 [(0, .ref o0), (1, .int x1), (2, .int x2), (3, .int x3), (4, .int x4)] := hl
  have hg : Gr S S := Gr.rf
  replace h : (f_X11_chooses o0 x1 x2 x3 x4 S).bind some = some qq := by rw [h]; rfl
  rw [f_X11_chooses] at h
  refine lv_aload_n hx hb dX11_chooses_0 rfl (lv_at hl 0 rfl) ?_
  refine lv_iconst (v := 0) hx hb dX11_chooses_1 (by decide) ?_
  refine p_I E F hw t_o0 cf11 fk_X11_1 rfl rfl rfl dX11_chooses_2 rfl (fun H locs hw => ?_)
  refine lv_aload_n hx hb dX11_chooses_5 rfl (lv_at hl 0 rfl) ?_
  refine lv_iload_n hx hb dX11_chooses_6 rfl (lv_at hl 1 rfl) ?_
  refine lv_iload_n hx hb dX11_chooses_7 rfl (lv_at hl 2 rfl) ?_
  refine lv_iload_n hx hb dX11_chooses_8 rfl (lv_at hl 3 rfl) ?_
  obtain ⟨q1, h_q1, h⟩ := bb h
  refine z_VI E F hw [.int x1, .int x2, .int x3] (k_X11_isOne l D cy kc o0 x1 x2 x3 (pI S o0 0 (0 : Int32)) h_q1 t_o0) t_o0 cf11 mk_X11_isOne vk_X11_isOne ml_X11_416 ⟨by decide, by decide⟩ rfl hl.1 rfl (Nat.le_of_ble_eq_true rfl) dX11_chooses_9 ⟨Nat.zero_le _, Nat.zero_le _⟩ (fun H locs hw hG => ?_)
  have t_o0 := hG.t t_o0
  have hg := hg.tr hG
  refine lv_if_ne (tgt := 17) hx hb dX11_chooses_12 (by decide) (fun c8 => ?_) (fun c8 => ?_)
  · rw [if_neg c8] at h
    refine lv_aload_n hx hb dX11_chooses_17 rfl (lv_at hl 0 rfl) ?_
    obtain ⟨q2, h_q2, h⟩ := bb h
    refine z_VV E F hw [] (k_X11_find l D cy kc o0 q1.2 h_q2 t_o0) t_o0 cf11 mk_X11_find vk_X11_find ml_X11_419 ⟨by decide, by decide⟩ rfl hl.1 rfl (Nat.le_of_ble_eq_true rfl) dX11_chooses_18 ⟨Nat.zero_le _, Nat.zero_le _⟩ (fun H locs hw hG => ?_)
    have t_o0 := hG.t t_o0
    have hg := hg.tr hG
    refine lv_iload hx hb dX11_chooses_21 (lv_at hl 4 rfl) ?_
    refine lv_if_eq (tgt := 40) hx hb dX11_chooses_23 (by decide) (fun c7 => ?_) (fun c7 => ?_)
    · rw [if_pos c7] at h
      refine lv_aload_n hx hb dX11_chooses_40 rfl (lv_at hl 0 rfl) ?_
      refine lv_iload_n hx hb dX11_chooses_41 rfl (lv_at hl 1 rfl) ?_
      refine lv_iload_n hx hb dX11_chooses_42 rfl (lv_at hl 2 rfl) ?_
      refine lv_iconst (v := 0) hx hb dX11_chooses_43 (by decide) ?_
      refine lv_iload_n hx hb dX11_chooses_44 rfl (lv_at hl 3 rfl) ?_
      obtain ⟨q3, h_q3, h⟩ := bb h
      refine z_VI E F hw [.int x1, .int x2, .int (0 : Int32), .int x3] (k_X11_plainChoice l D cy kc o0 x1 x2 (0 : Int32) x3 q2.2 h_q3 t_o0) t_o0 cf11 mk_X11_plainChoice vk_X11_plainChoice ml_X11_422 ⟨by decide, by decide⟩ rfl hl.1 rfl (Nat.le_of_ble_eq_true rfl) dX11_chooses_45 ⟨Nat.zero_le _, Nat.zero_le _⟩ (fun H locs hw hG => ?_)
      have t_o0 := hG.t t_o0
      have hg := hg.tr hG
      obtain rfl := Option.some.inj h
      exact r_I E hr hlk F hA hw hg dX11_chooses_48
    · rw [if_neg c7] at h
      refine lv_aload_n hx hb dX11_chooses_26 rfl (lv_at hl 0 rfl) ?_
      obtain ⟨b4, r_b4, h⟩ := bb h
      obtain ⟨r_b4, t_b4⟩ := rk_some r_b4
      refine g_R E F hw t_o0 cf11 fk_X11_101 dX11_chooses_27 rfl r_b4 ?_
      refine lv_iload_n hx hb dX11_chooses_30 rfl (lv_at hl 1 rfl) ?_
      refine lv_iload_n hx hb dX11_chooses_31 rfl (lv_at hl 2 rfl) ?_
      refine lv_iload_n hx hb dX11_chooses_32 rfl (lv_at hl 3 rfl) ?_
      obtain ⟨q5, h_q5, h⟩ := bb h
      refine z_SI E F hw [.int x1, .int x2, .int x3] (k_X11_doesAt l D cy kc x1 x2 x3 q2.2 h_q5) mk_X11_doesAt sk_X11_doesAt ml_X11_400 ⟨by decide, by decide⟩ rfl hl.1 rfl (Nat.le_of_ble_eq_true rfl) dX11_chooses_33 ⟨Nat.zero_le _, Nat.zero_le _⟩ (fun H locs hw hG => ?_)
      have t_o0 := hG.t t_o0
      have t_b4 := hG.t t_b4
      have hg := hg.tr hG
      obtain ⟨c6, h⟩ := bg h
      refine a_i E F hw t_b4 c6 dX11_chooses_36 ?_
      refine lv_goto (tgt := 48) hx hb dX11_chooses_37 (by decide) ?_
      obtain rfl := Option.some.inj h
      exact r_I E hr hlk F hA hw hg dX11_chooses_48
  · rw [if_pos c8] at h
    refine lv_iconst (v := (-1)) hx hb dX11_chooses_15 (by decide) ?_
    obtain rfl := Option.some.inj h
    exact r_I E hr hlk F hA hw hg dX11_chooses_16
def f_X11_common_b28  (x4 : Int64) (x6 : Int64) (S1 : PS) : Option ((Int64 × Int64 × PS) ⊕ ((Int64 × PS) ⊕ (Int64 × PS))) :=
  (if (lg_cmp x6 (0 : Int64)) = 0 then some (.inr (.inr (x4, S1))) else if x6 = 0 then none else some (.inl (x6, (x4 - x4 / x6 * x6), S1)))
def f_X11_common_53 (z4 : Int64) (S3 : PS) : Option (Int64 × PS) :=
  some (z4, S3)
def f_X11_common_12 (x2 : Int64) (y0 : Int64) (S3 : PS) : Option (Int64 × PS) :=
  (if 0 ≤ (lg_cmp x2 (0 : Int64)) then (loopN (fun a => f_X11_common_b28  a.1 a.2.1 a.2.2) fu (y0, x2, S3)).bind (Sum.elim (fun r => some r) (fun a => f_X11_common_53 a.1 a.2)) else (loopN (fun a => f_X11_common_b28  a.1 a.2.1 a.2.2) fu (y0, (-x2), S3)).bind (Sum.elim (fun r => some r) (fun a => f_X11_common_53 a.1 a.2)))
def f_X11_common (x0 : Int64) (x2 : Int64) (S : PS) : Option (Int64 × PS) :=
  (if 0 ≤ (lg_cmp x0 (0 : Int64)) then f_X11_common_12 x2 x0 S else f_X11_common_12 x2 (-x0) S)
set_option maxHeartbeats 4000000 in
set_option maxRecDepth 100000 in
theorem k_X11_common (l : Launch) (D : va_G) (cy : Nat → ClassId) (kc : Nat → Nat) (x0 : Int64) (x2 : Int64) (S : PS) {qq : Int64 × PS} (h : f_X11_common x0 x2 S = some qq) : KJ l D cy kc yX11_common cX11_common 10 (rmK 1 21 0 0) [.long x0, .long x2] S qq.1 qq.2 := by
  refine K_body (Qc := QJ D cy S qq.2 qq.1) (by decide) (Nat.le_of_ble_eq_true rfl) ?_
  intro p e s m below meth c A ls args E hr hlk hnm hA F hw hl
  have hx := E.1
  have hb := E.2.1
  have hl : lv_has ls 10 [(0, .long x0), (2, .long x2)] := hl
  have hg : Gr S S := Gr.rf
  replace h : (f_X11_common x0 x2 S).bind some = some qq := by rw [h]; rfl
  have L28 : ∀ (n : Nat) (x4 : Int64) (x6 : Int64) (S1 : PS) (o : (Int64 × PS) ⊕ (Int64 × PS)), loopN (fun a => f_X11_common_b28  a.1 a.2.1 a.2.2) n (x4, x6, S1) = some o → ∀ (H : Heap) (locs : List Loc) (ls : Array Slot), Wd D cy A s H locs S1 → Gr S S1 → lv_has ls 10 [(4, .long x4), (6, .long x6)] → (∀ (e0 : Int64) (S2 : PS), o = .inr (e0, S2) → ∀ (H : Heap) (locs : List Loc) (ls : Array Slot), Wd D cy A s H locs S2 → Gr S1 S2 → lv_has ls 10 [(4, .long e0)] → W p l e (rmK 1 21 0 0) s m args below meth c H locs 0 0 (MQ below (QJ D cy S qq.2 qq.1 s.heap.size) args s 0 0 A) (F0 m 53 ls [])) → (∀ q9, o = .inl q9 → q9 = qq) → W p l e (rmK 1 21 0 0) s m args below meth c H locs 0 0 (MQ below (QJ D cy S qq.2 qq.1 s.heap.size) args s 0 0 A) (F0 m 28 ls []) := by
    intro  n
    induction n with
    | zero => intro x4 x6 S1 o h; exact absurd h (by simp [loopN])
    | succ n ih =>
      intro x4 x6 S1 o h H locs ls hw hG0  hl hx2 hq2
      have hg : Gr S1 S1 := Gr.rf
      replace h : (f_X11_common_b28  x4 x6 S1).bind (Sum.elim (loopN (fun a => f_X11_common_b28  a.1 a.2.1 a.2.2) n) some) = some o := h
      rw [f_X11_common_b28] at h
      refine lv_lload hx hb dX11_common_28 (lv_at hl 1 rfl) ?_
      refine lv_lconst (v := 0) hx hb dX11_common_30 (by decide) ?_
      refine W.lcmp hx hb dX11_common_31 ?_
      refine lv_if_eq (tgt := 53) hx hb dX11_common_32 (by decide) (fun c2 => ?_) (fun c2 => ?_)
      · rw [if_pos c2] at h
        obtain rfl := Option.some.inj h
        exact hx2 x4 S1 rfl _ _ _ hw hg (lv_sub hl [0] rfl)
      · rw [if_neg c2] at h
        refine lv_lload hx hb dX11_common_35 (lv_at hl 0 rfl) ?_
        refine lv_lload hx hb dX11_common_37 (lv_at hl 1 rfl) ?_
        obtain ⟨c1, h⟩ := bz h
        refine lv_lrem hx hb dX11_common_39 c1 ?_
        refine lv_lstore (lv' := [(8, .long (x4 - x4 / x6 * x6)), (4, .long x4), (6, .long x6)]) hx hb dX11_common_40 hl (by decide) rfl (fun ls hl => ?_)
        refine lv_lload hx hb dX11_common_42 (lv_at hl 2 rfl) ?_
        refine lv_lstore (lv' := [(4, .long x6), (8, .long (x4 - x4 / x6 * x6)), (6, .long x6)]) hx hb dX11_common_44 hl (by decide) rfl (fun ls hl => ?_)
        refine lv_lload hx hb dX11_common_46 (lv_at hl 1 rfl) ?_
        refine lv_lstore (lv' := [(6, .long (x4 - x4 / x6 * x6)), (4, .long x6), (8, .long (x4 - x4 / x6 * x6))]) hx hb dX11_common_48 hl (by decide) rfl (fun ls hl => ?_)
        refine lv_goto (tgt := 28) hx hb dX11_common_50 (by decide) ?_
        exact ih x6 (x4 - x4 / x6 * x6) S1 _ h _ _ _ hw (hG0.tr hg)  (lv_sub hl [1, 0] rfl) (fun e0 S2 he H locs ls hw hG hl => hx2 e0 S2 he H locs ls hw (hg.tr hG) hl) hq2
  have J53 : ∀ (z4 : Int64) (S3 : PS) (H : Heap) (locs : List Loc) (ls : Array Slot), (f_X11_common_53 z4 S3).bind some = some qq → Wd D cy A s H locs S3 → Gr S S3 → lv_has ls 10 [(4, .long z4)] → W p l e (rmK 1 21 0 0) s m args below meth c H locs 0 0 (MQ below (QJ D cy S qq.2 qq.1 s.heap.size) args s 0 0 A) (F0 m 53 ls []) := by
    intro z4 S3 H locs ls h hw hg  hl
    rw [f_X11_common_53] at h
    refine lv_lload hx hb dX11_common_53 (lv_at hl 0 rfl) ?_
    obtain rfl := Option.some.inj h
    exact r_J E hr hlk F hA hw hg dX11_common_55
  have J12 : ∀ (y0 : Int64) (S3 : PS) (H : Heap) (locs : List Loc) (ls : Array Slot), (f_X11_common_12 x2 y0 S3).bind some = some qq → Wd D cy A s H locs S3 → Gr S S3 → lv_has ls 10 [(2, .long x2)] → W p l e (rmK 1 21 0 0) s m args below meth c H locs 0 0 (MQ below (QJ D cy S qq.2 qq.1 s.heap.size) args s 0 0 A) (F0 m 12 ls [.long y0]) := by
    intro y0 S3 H locs ls h hw hg  hl
    rw [f_X11_common_12] at h
    refine lv_lstore (lv' := [(4, .long y0), (2, .long x2)]) hx hb dX11_common_12 hl (by decide) rfl (fun ls hl => ?_)
    refine lv_lload_n hx hb dX11_common_14 rfl (lv_at hl 1 rfl) ?_
    refine lv_lconst (v := 0) hx hb dX11_common_15 (by decide) ?_
    refine W.lcmp hx hb dX11_common_16 ?_
    refine lv_if_ge (tgt := 25) hx hb dX11_common_17 (by decide) (fun c5 => ?_) (fun c5 => ?_)
    · rw [if_pos c5] at h
      refine lv_lload_n hx hb dX11_common_25 rfl (lv_at hl 1 rfl) ?_
      refine lv_lstore (lv' := [(6, .long x2), (4, .long y0), (2, .long x2)]) hx hb dX11_common_26 hl (by decide) rfl (fun ls hl => ?_)
      obtain ⟨y3, hy3, h⟩ := bb h
      refine L28  fu y0 x2 S3 y3 hy3 _ _ _ hw (hg)  (lv_sub hl [1, 0] rfl) (fun e0 S2 he H locs ls hw hG hl => ?_) (fun r he => ?_)
      · subst he
        have hg := hg.tr hG
        exact J53 e0 S2 _ _ _ h hw hg  (lv_sub hl [0] rfl)
      · subst he
        exact Option.some.inj h
    · rw [if_neg c5] at h
      refine lv_lload_n hx hb dX11_common_20 rfl (lv_at hl 1 rfl) ?_
      refine lv_lneg hx hb dX11_common_21 ?_
      refine lv_goto (tgt := 26) hx hb dX11_common_22 (by decide) ?_
      refine lv_lstore (lv' := [(6, .long (-x2)), (4, .long y0), (2, .long x2)]) hx hb dX11_common_26 hl (by decide) rfl (fun ls hl => ?_)
      obtain ⟨y4, hy4, h⟩ := bb h
      refine L28  fu y0 (-x2) S3 y4 hy4 _ _ _ hw (hg)  (lv_sub hl [1, 0] rfl) (fun e0 S2 he H locs ls hw hG hl => ?_) (fun r he => ?_)
      · subst he
        have hg := hg.tr hG
        exact J53 e0 S2 _ _ _ h hw hg  (lv_sub hl [0] rfl)
      · subst he
        exact Option.some.inj h
  rw [f_X11_common] at h
  refine lv_lload_n hx hb dX11_common_0 rfl (lv_at hl 0 rfl) ?_
  refine lv_lconst (v := 0) hx hb dX11_common_1 (by decide) ?_
  refine W.lcmp hx hb dX11_common_2 ?_
  refine lv_if_ge (tgt := 11) hx hb dX11_common_3 (by decide) (fun c6 => ?_) (fun c6 => ?_)
  · rw [if_pos c6] at h
    refine lv_lload_n hx hb dX11_common_11 rfl (lv_at hl 0 rfl) ?_
    exact J12 x0 S _ _ _ h hw hg  (lv_sub hl [1] rfl)
  · rw [if_neg c6] at h
    refine lv_lload_n hx hb dX11_common_6 rfl (lv_at hl 0 rfl) ?_
    refine lv_lneg hx hb dX11_common_7 ?_
    refine lv_goto (tgt := 12) hx hb dX11_common_8 (by decide) ?_
    exact J12 (-x0) S _ _ _ h hw hg  (lv_sub hl [1] rfl)
def f_X11_sets (o0 : Nat) (x1 : Int64) (x3 : Int64) (S : PS) : Option (Unit × PS) :=
  (f_X11_common x1 x3 S).bind fun q1 => if q1.1 = 0 then none else if q1.1 = 0 then none else some ((), pJ (pJ q1.2 o0 28 (x1 / q1.1)) o0 29 (x3 / q1.1))
set_option maxHeartbeats 4000000 in
set_option maxRecDepth 100000 in
theorem k_X11_sets (l : Launch) (D : va_G) (cy : Nat → ClassId) (kc : Nat → Nat) (o0 : Nat) (x1 : Int64) (x3 : Int64) (S : PS) {qq : Unit × PS} (h : f_X11_sets o0 x1 x3 S = some qq) (t_o0 : tD S o0 11) : KV l D cy kc yX11_sets cX11_sets 7 (rmK 2 66 0 0) [.ref o0, .long x1, .long x3] S qq.2 := by
  refine K_body (Qc := QV D cy S qq.2) (by decide) (Nat.le_of_ble_eq_true rfl) ?_
  intro p e s m below meth c A ls args E hr hlk hnm hA F hw hl
  have hx := E.1
  have hb := E.2.1
  have hl : lv_has ls 7 [(0, .ref o0), (1, .long x1), (3, .long x3)] := hl
  have hg : Gr S S := Gr.rf
  replace h : (f_X11_sets o0 x1 x3 S).bind some = some qq := by rw [h]; rfl
  rw [f_X11_sets] at h
  refine lv_lload_n hx hb dX11_sets_0 rfl (lv_at hl 1 rfl) ?_
  refine lv_lload_n hx hb dX11_sets_1 rfl (lv_at hl 2 rfl) ?_
  obtain ⟨q1, h_q1, h⟩ := bb h
  refine z_SJ E F hw [.long x1, .long x3] (k_X11_common l D cy kc x1 x3 S h_q1) mk_X11_common sk_X11_common ml_X11_425 ⟨by decide, by decide⟩ rfl hl.1 rfl (Nat.le_of_ble_eq_true rfl) dX11_sets_2 ⟨Nat.zero_le _, Nat.zero_le _⟩ (fun H locs hw hG => ?_)
  have t_o0 := hG.t t_o0
  have hg := hg.tr hG
  refine lv_lstore (lv' := [(5, .long q1.1), (0, .ref o0), (1, .long x1), (3, .long x3)]) hx hb dX11_sets_5 hl (by decide) rfl (fun ls hl => ?_)
  refine lv_aload_n hx hb dX11_sets_7 rfl (lv_at hl 1 rfl) ?_
  refine lv_lload_n hx hb dX11_sets_8 rfl (lv_at hl 2 rfl) ?_
  refine lv_lload hx hb dX11_sets_9 (lv_at hl 0 rfl) ?_
  obtain ⟨c2, h⟩ := bz h
  refine lv_ldiv hx hb dX11_sets_11 c2 ?_
  refine p_J E F hw t_o0 cf11 fk_X11_429 rfl rfl rfl dX11_sets_12 rfl (fun H locs hw => ?_)
  refine lv_aload_n hx hb dX11_sets_15 rfl (lv_at hl 1 rfl) ?_
  refine lv_lload_n hx hb dX11_sets_16 rfl (lv_at hl 3 rfl) ?_
  refine lv_lload hx hb dX11_sets_17 (lv_at hl 0 rfl) ?_
  obtain ⟨c3, h⟩ := bz h
  refine lv_ldiv hx hb dX11_sets_19 c3 ?_
  refine p_J E F hw t_o0 cf11 fk_X11_433 rfl rfl rfl dX11_sets_20 rfl (fun H locs hw => ?_)
  obtain rfl := Option.some.inj h
  exact r_V E hr hlk F hA hw hg dX11_sets_23
