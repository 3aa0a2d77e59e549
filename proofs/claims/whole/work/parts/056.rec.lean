def f_X11_products_b5 (tp : Nat → Int32 → PS → Option (Unit × PS)) (o0 : Nat) (x1 : Int32)  (S1 : PS) : Option ((PS) ⊕ ((Unit × PS) ⊕ (PS))) :=
  (f_X11_hasSign o0 (42 : Int32) S1).bind fun q2 => (if q2.1 = 0 then some (.inr (.inr (q2.2))) else (tp o0 x1 q2.2).bind fun q3 => (f_X11_emit o0 (6 : Int32) (0 : Int32) q3.2).bind fun q4 => some (.inl (q4.2)))
def f_X11_products_29 (tp : Nat → Int32 → PS → Option (Unit × PS))  (S3 : PS) : Option (Unit × PS) :=
  some ((), S3)
def f_X11_products (tp : Nat → Int32 → PS → Option (Unit × PS)) (o0 : Nat) (x1 : Int32) (S : PS) : Option (Unit × PS) :=
  (tp o0 x1 S).bind fun q1 => (loopN (fun a => f_X11_products_b5 tp o0 x1 a) fu (q1.2)).bind (Sum.elim (fun r => some r) (fun a => f_X11_products_29 tp  a))
set_option maxHeartbeats 4000000 in
set_option maxRecDepth 100000 in
theorem k_X11_products (l : Launch) (D : va_G) (cy : Nat → ClassId) (kc : Nat → Nat) (tp : Nat → Int32 → PS → Option (Unit × PS)) (fr lo : Nat) (hT : ∀ (o0 : Nat) (x1 : Int32) (S : PS) (qq : Unit × PS), tp o0 x1 S = some qq → tD S o0 11 → KV l D cy kc yX11_takePart cX11_takePart 6 (rmK fr lo 0 0) [.ref o0, .int x1] S qq.2) (o0 : Nat) (x1 : Int32) (S : PS) {qq : Unit × PS} (h : f_X11_products tp o0 x1 S = some qq) (t_o0 : tD S o0 11) : KV l D cy kc yX11_products cX11_products 2 (rmK (fr + 3) (lo + 88) 0 0) [.ref o0, .int x1] S qq.2 := by
  refine K_body (Qc := QV D cy S qq.2) (by decide) (Nat.le_of_ble_eq_true rfl) ?_
  intro p e s m below meth c A ls args E hr hlk hnm hA F hw hl
  have hx := E.1
  have hb := E.2.1
  have hl : lv_has ls 2 [(0, .ref o0), (1, .int x1)] := hl
  have hg : Gr S S := Gr.rf
  replace h : (f_X11_products tp o0 x1 S).bind some = some qq := by rw [h]; rfl
  have L5 : ∀ (o0 : Nat) (x1 : Int32) (n : Nat)  (S1 : PS) (o : (Unit × PS) ⊕ (PS)), loopN (fun a => f_X11_products_b5 tp o0 x1 a) n (S1) = some o → ∀ (H : Heap) (locs : List Loc) (ls : Array Slot), Wd D cy A s H locs S1 → Gr S S1 → tD S1 o0 11 → lv_has ls 2 [(0, .ref o0), (1, .int x1)] → (∀ (S2 : PS), o = .inr (S2) → ∀ (H : Heap) (locs : List Loc) (ls : Array Slot), Wd D cy A s H locs S2 → Gr S1 S2 → lv_has ls 2 [] → W p l e (rmK (fr + 3) (lo + 88) 0 0) s m args below meth c H locs 0 0 (MQ below (QV D cy S qq.2 s.heap.size) args s 0 0 A) (F0 m 29 ls [])) → (∀ q9, o = .inl q9 → q9 = qq) → W p l e (rmK (fr + 3) (lo + 88) 0 0) s m args below meth c H locs 0 0 (MQ below (QV D cy S qq.2 s.heap.size) args s 0 0 A) (F0 m 5 ls []) := by
    intro o0 x1 n
    induction n with
    | zero => intro  S1 o h; exact absurd h (by simp [loopN])
    | succ n ih =>
      intro  S1 o h H locs ls hw hG0 t_o0 hl hx2 hq2
      have hg : Gr S1 S1 := Gr.rf
      replace h : (f_X11_products_b5 tp o0 x1  S1).bind (Sum.elim (loopN (fun a => f_X11_products_b5 tp o0 x1 a) n) some) = some o := h
      rw [f_X11_products_b5] at h
      refine lv_aload_n hx hb dX11_products_5 rfl (lv_at hl 0 rfl) ?_
      refine lv_bipush (v := 42) hx hb dX11_products_6 (by decide) ?_
      obtain ⟨q2, h_q2, h⟩ := bb h
      refine z_VI E F hw [.int (42 : Int32)] (k_X11_hasSign l D cy kc o0 (42 : Int32) S1 h_q2 t_o0) t_o0 cf11 mk_X11_hasSign vk_X11_hasSign ml_X11_294 ⟨by simp only [rmK]; omega, by simp only [rmK]; omega⟩ rfl hl.1 rfl (Nat.le_of_ble_eq_true rfl) dX11_products_8 ⟨Nat.zero_le _, Nat.zero_le _⟩ (fun H locs hw hG => ?_)
      have t_o0 := hG.t t_o0
      have hg := hg.tr hG
      refine lv_if_eq (tgt := 29) hx hb dX11_products_11 (by decide) (fun c5 => ?_) (fun c5 => ?_)
      · rw [if_pos c5] at h
        obtain rfl := Option.some.inj h
        exact hx2 q2.2 rfl _ _ _ hw hg (lv_sub hl [] rfl)
      · rw [if_neg c5] at h
        refine lv_aload_n hx hb dX11_products_14 rfl (lv_at hl 0 rfl) ?_
        refine lv_iload_n hx hb dX11_products_15 rfl (lv_at hl 1 rfl) ?_
        obtain ⟨q3, h_q3, h⟩ := bb h
        refine z_VV E F hw [.int x1] (hT o0 x1 q2.2 _ h_q3 t_o0) t_o0 cf11 mk_X11_takePart vk_X11_takePart ml_X11_300 ⟨by simp only [rmK]; omega, by simp only [rmK]; omega⟩ rfl hl.1 rfl (Nat.le_of_ble_eq_true rfl) dX11_products_16 ⟨Nat.zero_le _, Nat.zero_le _⟩ (fun H locs hw hG => ?_)
        have t_o0 := hG.t t_o0
        have hg := hg.tr hG
        refine lv_aload_n hx hb dX11_products_19 rfl (lv_at hl 0 rfl) ?_
        refine lv_bipush (v := 6) hx hb dX11_products_20 (by decide) ?_
        refine lv_iconst (v := 0) hx hb dX11_products_22 (by decide) ?_
        obtain ⟨q4, h_q4, h⟩ := bb h
        refine z_VV E F hw [.int (6 : Int32), .int (0 : Int32)] (k_X11_emit l D cy kc o0 (6 : Int32) (0 : Int32) q3.2 h_q4 t_o0) t_o0 cf11 mk_X11_emit vk_X11_emit ml_X11_285 ⟨by simp only [rmK]; omega, by simp only [rmK]; omega⟩ rfl hl.1 rfl (Nat.le_of_ble_eq_true rfl) dX11_products_23 ⟨Nat.zero_le _, Nat.zero_le _⟩ (fun H locs hw hG => ?_)
        have t_o0 := hG.t t_o0
        have hg := hg.tr hG
        refine lv_goto (tgt := 5) hx hb dX11_products_26 (by decide) ?_
        exact ih q4.2 _ h _ _ _ hw (hG0.tr hg) t_o0 (lv_sub hl [0, 1] rfl) (fun  S2 he H locs ls hw hG hl => hx2  S2 he H locs ls hw (hg.tr hG) hl) hq2
  have J29 : ∀  (S3 : PS) (H : Heap) (locs : List Loc) (ls : Array Slot), (f_X11_products_29 tp  S3).bind some = some qq → Wd D cy A s H locs S3 → Gr S S3 → lv_has ls 2 [] → W p l e (rmK (fr + 3) (lo + 88) 0 0) s m args below meth c H locs 0 0 (MQ below (QV D cy S qq.2 s.heap.size) args s 0 0 A) (F0 m 29 ls []) := by
    intro  S3 H locs ls h hw hg  hl
    rw [f_X11_products_29] at h
    obtain rfl := Option.some.inj h
    exact r_V E hr hlk F hA hw hg dX11_products_29
  rw [f_X11_products] at h
  refine lv_aload_n hx hb dX11_products_0 rfl (lv_at hl 0 rfl) ?_
  refine lv_iload_n hx hb dX11_products_1 rfl (lv_at hl 1 rfl) ?_
  obtain ⟨q1, h_q1, h⟩ := bb h
  refine z_VV E F hw [.int x1] (hT o0 x1 S _ h_q1 t_o0) t_o0 cf11 mk_X11_takePart vk_X11_takePart ml_X11_300 ⟨by simp only [rmK]; omega, by simp only [rmK]; omega⟩ rfl hl.1 rfl (Nat.le_of_ble_eq_true rfl) dX11_products_2 ⟨Nat.zero_le _, Nat.zero_le _⟩ (fun H locs hw hG => ?_)
  have t_o0 := hG.t t_o0
  have hg := hg.tr hG
  obtain ⟨y6, hy6, h⟩ := bb h
  refine L5 o0 x1 fu q1.2 y6 hy6 _ _ _ hw (hg) t_o0 (lv_sub hl [0, 1] rfl) (fun  S2 he H locs ls hw hG hl => ?_) (fun r he => ?_)
  · subst he
    have hg := hg.tr hG
    exact J29  S2 _ _ _ h hw hg  (lv_sub hl [] rfl)
  · subst he
    exact Option.some.inj h
def f_X11_sums_55b5 (tp : Nat → Int32 → PS → Option (Unit × PS)) (o0 : Nat) (x1 : Int32) (w0 : Nat) (y1 : Int32) (S3 : PS) : Option ((PS) ⊕ ((Unit × PS) ⊕ (PS))) :=
  (f_X11_emit w0 y1 (0 : Int32) S3).bind fun q5 => some (.inl (q5.2))
def f_X11_sums_23b5 (tp : Nat → Int32 → PS → Option (Unit × PS)) (o0 : Nat) (x1 : Int32) (S3 : PS) : Option ((PS) ⊕ ((Unit × PS) ⊕ (PS))) :=
  (f_X11_isSign o0 (43 : Int32) S3).bind fun q3 => (f_X11_products tp o0 x1 (pI q3.2 o0 7 ((sI q3.2 o0 7) + (1 : Int32)))).bind fun q4 => (if q3.1 = 0 then f_X11_sums_55b5 tp o0 x1 o0 (5 : Int32) q4.2 else f_X11_sums_55b5 tp o0 x1 o0 (4 : Int32) q4.2)
def f_X11_sums_b5 (tp : Nat → Int32 → PS → Option (Unit × PS)) (o0 : Nat) (x1 : Int32)  (S1 : PS) : Option ((PS) ⊕ ((Unit × PS) ⊕ (PS))) :=
  (f_X11_isSign o0 (43 : Int32) S1).bind fun q2 => (if q2.1 = 0 then (f_X11_isSign o0 (45 : Int32) q2.2).bind fun q7 => (if q7.1 = 0 then some (.inr (.inr (q7.2))) else f_X11_sums_23b5 tp o0 x1 q7.2) else f_X11_sums_23b5 tp o0 x1 q2.2)
def f_X11_sums_62 (tp : Nat → Int32 → PS → Option (Unit × PS))  (S3 : PS) : Option (Unit × PS) :=
  some ((), S3)
def f_X11_sums (tp : Nat → Int32 → PS → Option (Unit × PS)) (o0 : Nat) (x1 : Int32) (S : PS) : Option (Unit × PS) :=
  (f_X11_products tp o0 x1 S).bind fun q1 => (loopN (fun a => f_X11_sums_b5 tp o0 x1 a) fu (q1.2)).bind (Sum.elim (fun r => some r) (fun a => f_X11_sums_62 tp  a))
set_option maxHeartbeats 4000000 in
set_option maxRecDepth 100000 in
theorem k_X11_sums (l : Launch) (D : va_G) (cy : Nat → ClassId) (kc : Nat → Nat) (tp : Nat → Int32 → PS → Option (Unit × PS)) (fr lo : Nat) (hT : ∀ (o0 : Nat) (x1 : Int32) (S : PS) (qq : Unit × PS), tp o0 x1 S = some qq → tD S o0 11 → KV l D cy kc yX11_takePart cX11_takePart 6 (rmK fr lo 0 0) [.ref o0, .int x1] S qq.2) (o0 : Nat) (x1 : Int32) (S : PS) {qq : Unit × PS} (h : f_X11_sums tp o0 x1 S = some qq) (t_o0 : tD S o0 11) : KV l D cy kc yX11_sums cX11_sums 3 (rmK (fr + 4) (lo + 125) 0 0) [.ref o0, .int x1] S qq.2 := by
  refine K_body (Qc := QV D cy S qq.2) (by decide) (Nat.le_of_ble_eq_true rfl) ?_
  intro p e s m below meth c A ls args E hr hlk hnm hA F hw hl
  have hx := E.1
  have hb := E.2.1
  have hl : lv_has ls 3 [(0, .ref o0), (1, .int x1)] := hl
  have hg : Gr S S := Gr.rf
  replace h : (f_X11_sums tp o0 x1 S).bind some = some qq := by rw [h]; rfl
  have L5 : ∀ (o0 : Nat) (x1 : Int32) (n : Nat)  (S1 : PS) (o : (Unit × PS) ⊕ (PS)), loopN (fun a => f_X11_sums_b5 tp o0 x1 a) n (S1) = some o → ∀ (H : Heap) (locs : List Loc) (ls : Array Slot), Wd D cy A s H locs S1 → Gr S S1 → tD S1 o0 11 → lv_has ls 3 [(0, .ref o0), (1, .int x1)] → (∀ (S2 : PS), o = .inr (S2) → ∀ (H : Heap) (locs : List Loc) (ls : Array Slot), Wd D cy A s H locs S2 → Gr S1 S2 → lv_has ls 3 [] → W p l e (rmK (fr + 4) (lo + 125) 0 0) s m args below meth c H locs 0 0 (MQ below (QV D cy S qq.2 s.heap.size) args s 0 0 A) (F0 m 62 ls [])) → (∀ q9, o = .inl q9 → q9 = qq) → W p l e (rmK (fr + 4) (lo + 125) 0 0) s m args below meth c H locs 0 0 (MQ below (QV D cy S qq.2 s.heap.size) args s 0 0 A) (F0 m 5 ls []) := by
    intro o0 x1 n
    induction n with
    | zero => intro  S1 o h; exact absurd h (by simp [loopN])
    | succ n ih =>
      intro  S1 o h H locs ls hw hG0 t_o0 hl hx2 hq2
      have hg : Gr S1 S1 := Gr.rf
      replace h : (f_X11_sums_b5 tp o0 x1  S1).bind (Sum.elim (loopN (fun a => f_X11_sums_b5 tp o0 x1 a) n) some) = some o := h
      have J55 : ∀ (w0 : Nat) (y1 : Int32) (S3 : PS) (H : Heap) (locs : List Loc) (ls : Array Slot), (f_X11_sums_55b5 tp o0 x1 w0 y1 S3).bind (Sum.elim (loopN (fun a => f_X11_sums_b5 tp o0 x1 a) n) some) = some o → Wd D cy A s H locs S3 → Gr S1 S3 → tD S3 o0 11 → tD S3 w0 11 → lv_has ls 3 [(0, .ref o0), (1, .int x1)] → W p l e (rmK (fr + 4) (lo + 125) 0 0) s m args below meth c H locs 0 0 (MQ below (QV D cy S qq.2 s.heap.size) args s 0 0 A) (F0 m 55 ls [.int y1, .ref w0]) := by
        intro w0 y1 S3 H locs ls h hw hg t_o0 t_w0 hl
        rw [f_X11_sums_55b5] at h
        refine lv_iconst (v := 0) hx hb dX11_sums_55 (by decide) ?_
        obtain ⟨q5, h_q5, h⟩ := bb h
        refine z_VV E F hw [.int y1, .int (0 : Int32)] (k_X11_emit l D cy kc w0 y1 (0 : Int32) S3 h_q5 t_w0) t_w0 cf11 mk_X11_emit vk_X11_emit ml_X11_285 ⟨by simp only [rmK]; omega, by simp only [rmK]; omega⟩ rfl hl.1 rfl (Nat.le_of_ble_eq_true rfl) dX11_sums_56 ⟨Nat.zero_le _, Nat.zero_le _⟩ (fun H locs hw hG => ?_)
        have t_o0 := hG.t t_o0
        have hg := hg.tr hG
        refine lv_goto (tgt := 5) hx hb dX11_sums_59 (by decide) ?_
        exact ih q5.2 _ h _ _ _ hw (hG0.tr hg) t_o0 (lv_sub hl [0, 1] rfl) (fun  S2 he H locs ls hw hG hl => hx2  S2 he H locs ls hw (hg.tr hG) hl) hq2
      have J23 : ∀  (S3 : PS) (H : Heap) (locs : List Loc) (ls : Array Slot), (f_X11_sums_23b5 tp o0 x1 S3).bind (Sum.elim (loopN (fun a => f_X11_sums_b5 tp o0 x1 a) n) some) = some o → Wd D cy A s H locs S3 → Gr S1 S3 → tD S3 o0 11 → lv_has ls 3 [(0, .ref o0), (1, .int x1)] → W p l e (rmK (fr + 4) (lo + 125) 0 0) s m args below meth c H locs 0 0 (MQ below (QV D cy S qq.2 s.heap.size) args s 0 0 A) (F0 m 23 ls []) := by
        intro  S3 H locs ls h hw hg t_o0 hl
        rw [f_X11_sums_23b5] at h
        refine lv_aload_n hx hb dX11_sums_23 rfl (lv_at hl 0 rfl) ?_
        refine lv_bipush (v := 43) hx hb dX11_sums_24 (by decide) ?_
        obtain ⟨q3, h_q3, h⟩ := bb h
        refine z_VI E F hw [.int (43 : Int32)] (k_X11_isSign l D cy kc o0 (43 : Int32) S3 h_q3 t_o0) t_o0 cf11 mk_X11_isSign vk_X11_isSign ml_X11_199 ⟨by simp only [rmK]; omega, by simp only [rmK]; omega⟩ rfl hl.1 rfl (Nat.le_of_ble_eq_true rfl) dX11_sums_26 ⟨Nat.zero_le _, Nat.zero_le _⟩ (fun H locs hw hG => ?_)
        have t_o0 := hG.t t_o0
        have hg := hg.tr hG
        refine lv_istore_n (lv' := [(2, .int q3.1), (0, .ref o0), (1, .int x1)]) hx hb dX11_sums_29 rfl hl (by decide) rfl (fun ls hl => ?_)
        refine lv_aload_n hx hb dX11_sums_30 rfl (lv_at hl 1 rfl) ?_
        refine lv_dup hx hb dX11_sums_31 rfl ?_
        refine g_f E F hw t_o0 cf11 fk_X11_193 dX11_sums_32 rfl ?_
        refine lv_iconst (v := 1) hx hb dX11_sums_35 (by decide) ?_
        refine lv_iadd hx hb dX11_sums_36 ?_
        refine p_I E F hw t_o0 cf11 fk_X11_193 rfl rfl rfl dX11_sums_37 rfl (fun H locs hw => ?_)
        refine lv_aload_n hx hb dX11_sums_40 rfl (lv_at hl 1 rfl) ?_
        refine lv_iload_n hx hb dX11_sums_41 rfl (lv_at hl 2 rfl) ?_
        obtain ⟨q4, h_q4, h⟩ := bb h
        refine z_VV E F hw [.int x1] (k_X11_products l D cy kc tp fr lo hT o0 x1 (pI q3.2 o0 7 ((sI q3.2 o0 7) + (1 : Int32))) h_q4 t_o0) t_o0 cf11 mk_X11_products vk_X11_products ml_X11_297 ⟨by simp only [rmK]; omega, by simp only [rmK]; omega⟩ rfl hl.1 rfl (Nat.le_of_ble_eq_true rfl) dX11_sums_42 ⟨Nat.zero_le _, Nat.zero_le _⟩ (fun H locs hw hG => ?_)
        have t_o0 := hG.t t_o0
        have hg := hg.tr hG
        refine lv_aload_n hx hb dX11_sums_45 rfl (lv_at hl 1 rfl) ?_
        refine lv_iload_n hx hb dX11_sums_46 rfl (lv_at hl 0 rfl) ?_
        refine lv_if_eq (tgt := 54) hx hb dX11_sums_47 (by decide) (fun c6 => ?_) (fun c6 => ?_)
        · rw [if_pos c6] at h
          refine lv_iconst (v := 5) hx hb dX11_sums_54 (by decide) ?_
          exact J55 o0 (5 : Int32) q4.2 _ _ _ h hw hg t_o0 t_o0 (lv_sub hl [1, 2] rfl)
        · rw [if_neg c6] at h
          refine lv_iconst (v := 4) hx hb dX11_sums_50 (by decide) ?_
          refine lv_goto (tgt := 55) hx hb dX11_sums_51 (by decide) ?_
          exact J55 o0 (4 : Int32) q4.2 _ _ _ h hw hg t_o0 t_o0 (lv_sub hl [1, 2] rfl)
      rw [f_X11_sums_b5] at h
      refine lv_aload_n hx hb dX11_sums_5 rfl (lv_at hl 0 rfl) ?_
      refine lv_bipush (v := 43) hx hb dX11_sums_6 (by decide) ?_
      obtain ⟨q2, h_q2, h⟩ := bb h
      refine z_VI E F hw [.int (43 : Int32)] (k_X11_isSign l D cy kc o0 (43 : Int32) S1 h_q2 t_o0) t_o0 cf11 mk_X11_isSign vk_X11_isSign ml_X11_199 ⟨by simp only [rmK]; omega, by simp only [rmK]; omega⟩ rfl hl.1 rfl (Nat.le_of_ble_eq_true rfl) dX11_sums_8 ⟨Nat.zero_le _, Nat.zero_le _⟩ (fun H locs hw hG => ?_)
      have t_o0 := hG.t t_o0
      have hg := hg.tr hG
      refine lv_if_ne (tgt := 23) hx hb dX11_sums_11 (by decide) (fun c9 => ?_) (fun c9 => ?_)
      · rw [if_neg c9] at h
        exact J23  q2.2 _ _ _ h hw hg t_o0 (lv_sub hl [0, 1] rfl)
      · rw [if_pos c9] at h
        refine lv_aload_n hx hb dX11_sums_14 rfl (lv_at hl 0 rfl) ?_
        refine lv_bipush (v := 45) hx hb dX11_sums_15 (by decide) ?_
        obtain ⟨q7, h_q7, h⟩ := bb h
        refine z_VI E F hw [.int (45 : Int32)] (k_X11_isSign l D cy kc o0 (45 : Int32) q2.2 h_q7 t_o0) t_o0 cf11 mk_X11_isSign vk_X11_isSign ml_X11_199 ⟨by simp only [rmK]; omega, by simp only [rmK]; omega⟩ rfl hl.1 rfl (Nat.le_of_ble_eq_true rfl) dX11_sums_17 ⟨Nat.zero_le _, Nat.zero_le _⟩ (fun H locs hw hG => ?_)
        have t_o0 := hG.t t_o0
        have hg := hg.tr hG
        refine lv_if_eq (tgt := 62) hx hb dX11_sums_20 (by decide) (fun c8 => ?_) (fun c8 => ?_)
        · rw [if_pos c8] at h
          obtain rfl := Option.some.inj h
          exact hx2 q7.2 rfl _ _ _ hw hg (lv_sub hl [] rfl)
        · rw [if_neg c8] at h
          exact J23  q7.2 _ _ _ h hw hg t_o0 (lv_sub hl [0, 1] rfl)
  have J62 : ∀  (S3 : PS) (H : Heap) (locs : List Loc) (ls : Array Slot), (f_X11_sums_62 tp  S3).bind some = some qq → Wd D cy A s H locs S3 → Gr S S3 → lv_has ls 3 [] → W p l e (rmK (fr + 4) (lo + 125) 0 0) s m args below meth c H locs 0 0 (MQ below (QV D cy S qq.2 s.heap.size) args s 0 0 A) (F0 m 62 ls []) := by
    intro  S3 H locs ls h hw hg  hl
    rw [f_X11_sums_62] at h
    obtain rfl := Option.some.inj h
    exact r_V E hr hlk F hA hw hg dX11_sums_62
  rw [f_X11_sums] at h
  refine lv_aload_n hx hb dX11_sums_0 rfl (lv_at hl 0 rfl) ?_
  refine lv_iload_n hx hb dX11_sums_1 rfl (lv_at hl 1 rfl) ?_
  obtain ⟨q1, h_q1, h⟩ := bb h
  refine z_VV E F hw [.int x1] (k_X11_products l D cy kc tp fr lo hT o0 x1 S h_q1 t_o0) t_o0 cf11 mk_X11_products vk_X11_products ml_X11_297 ⟨by simp only [rmK]; omega, by simp only [rmK]; omega⟩ rfl hl.1 rfl (Nat.le_of_ble_eq_true rfl) dX11_sums_2 ⟨Nat.zero_le _, Nat.zero_le _⟩ (fun H locs hw hG => ?_)
  have t_o0 := hG.t t_o0
  have hg := hg.tr hG
  obtain ⟨y10, hy10, h⟩ := bb h
  refine L5 o0 x1 fu q1.2 y10 hy10 _ _ _ hw (hg) t_o0 (lv_sub hl [0, 1] rfl) (fun  S2 he H locs ls hw hG hl => ?_) (fun r he => ?_)
  · subst he
    have hg := hg.tr hG
    exact J62  S2 _ _ _ h hw hg  (lv_sub hl [] rfl)
  · subst he
    exact Option.some.inj h
def f_X11_test_47 (tp : Nat → Int32 → PS → Option (Unit × PS)) (w0 : Nat) (y1 : Int32) (S3 : PS) : Option (Unit × PS) :=
  (f_X11_emit w0 y1 (0 : Int32) S3).bind fun q5 => some ((), q5.2)
def f_X11_test_30 (tp : Nat → Int32 → PS → Option (Unit × PS)) (o0 : Nat) (x1 : Int32) (z2 : Int32) (S3 : PS) : Option (Unit × PS) :=
  (f_X11_sums tp o0 x1 S3).bind fun q4 => (if z2 = 0 then f_X11_test_47 tp o0 (8 : Int32) q4.2 else f_X11_test_47 tp o0 (7 : Int32) q4.2)
def f_X11_test (tp : Nat → Int32 → PS → Option (Unit × PS)) (o0 : Nat) (x1 : Int32) (S : PS) : Option (Unit × PS) :=
  (f_X11_sums tp o0 x1 S).bind fun q1 => (f_X11_isSign o0 (60 : Int32) q1.2).bind fun q2 => (f_X11_hasSign o0 (60 : Int32) q2.2).bind fun q3 => (if q3.1 = 0 then (f_X11_hasSign o0 (61 : Int32) q3.2).bind fun q7 => (if q7.1 = 0 then some ((), q7.2) else f_X11_test_30 tp o0 x1 q2.1 q7.2) else f_X11_test_30 tp o0 x1 q2.1 q3.2)
set_option maxHeartbeats 4000000 in
set_option maxRecDepth 100000 in
theorem k_X11_test (l : Launch) (D : va_G) (cy : Nat → ClassId) (kc : Nat → Nat) (tp : Nat → Int32 → PS → Option (Unit × PS)) (fr lo : Nat) (hT : ∀ (o0 : Nat) (x1 : Int32) (S : PS) (qq : Unit × PS), tp o0 x1 S = some qq → tD S o0 11 → KV l D cy kc yX11_takePart cX11_takePart 6 (rmK fr lo 0 0) [.ref o0, .int x1] S qq.2) (o0 : Nat) (x1 : Int32) (S : PS) {qq : Unit × PS} (h : f_X11_test tp o0 x1 S = some qq) (t_o0 : tD S o0 11) : KV l D cy kc yX11_test cX11_test 3 (rmK (fr + 5) (lo + 163) 0 0) [.ref o0, .int x1] S qq.2 := by
  refine K_body (Qc := QV D cy S qq.2) (by decide) (Nat.le_of_ble_eq_true rfl) ?_
  intro p e s m below meth c A ls args E hr hlk hnm hA F hw hl
  have hx := E.1
  have hb := E.2.1
  have hl : lv_has ls 3 [(0, .ref o0), (1, .int x1)] := hl
  have hg : Gr S S := Gr.rf
  replace h : (f_X11_test tp o0 x1 S).bind some = some qq := by rw [h]; rfl
  have J47 : ∀ (w0 : Nat) (y1 : Int32) (S3 : PS) (H : Heap) (locs : List Loc) (ls : Array Slot), (f_X11_test_47 tp w0 y1 S3).bind some = some qq → Wd D cy A s H locs S3 → Gr S S3 → tD S3 w0 11 → lv_has ls 3 [] → W p l e (rmK (fr + 5) (lo + 163) 0 0) s m args below meth c H locs 0 0 (MQ below (QV D cy S qq.2 s.heap.size) args s 0 0 A) (F0 m 47 ls [.int y1, .ref w0]) := by
    intro w0 y1 S3 H locs ls h hw hg t_w0 hl
    rw [f_X11_test_47] at h
    refine lv_iconst (v := 0) hx hb dX11_test_47 (by decide) ?_
    obtain ⟨q5, h_q5, h⟩ := bb h
    refine z_VV E F hw [.int y1, .int (0 : Int32)] (k_X11_emit l D cy kc w0 y1 (0 : Int32) S3 h_q5 t_w0) t_w0 cf11 mk_X11_emit vk_X11_emit ml_X11_285 ⟨by simp only [rmK]; omega, by simp only [rmK]; omega⟩ rfl hl.1 rfl (Nat.le_of_ble_eq_true rfl) dX11_test_48 ⟨Nat.zero_le _, Nat.zero_le _⟩ (fun H locs hw hG => ?_)
    have hg := hg.tr hG
    obtain rfl := Option.some.inj h
    exact r_V E hr hlk F hA hw hg dX11_test_51
  have J30 : ∀ (z2 : Int32) (S3 : PS) (H : Heap) (locs : List Loc) (ls : Array Slot), (f_X11_test_30 tp o0 x1 z2 S3).bind some = some qq → Wd D cy A s H locs S3 → Gr S S3 → tD S3 o0 11 → lv_has ls 3 [(0, .ref o0), (1, .int x1), (2, .int z2)] → W p l e (rmK (fr + 5) (lo + 163) 0 0) s m args below meth c H locs 0 0 (MQ below (QV D cy S qq.2 s.heap.size) args s 0 0 A) (F0 m 30 ls []) := by
    intro z2 S3 H locs ls h hw hg t_o0 hl
    rw [f_X11_test_30] at h
    refine lv_aload_n hx hb dX11_test_30 rfl (lv_at hl 0 rfl) ?_
    refine lv_iload_n hx hb dX11_test_31 rfl (lv_at hl 1 rfl) ?_
    obtain ⟨q4, h_q4, h⟩ := bb h
    refine z_VV E F hw [.int x1] (k_X11_sums l D cy kc tp fr lo hT o0 x1 S3 h_q4 t_o0) t_o0 cf11 mk_X11_sums vk_X11_sums ml_X11_291 ⟨by simp only [rmK]; omega, by simp only [rmK]; omega⟩ rfl hl.1 rfl (Nat.le_of_ble_eq_true rfl) dX11_test_32 ⟨Nat.zero_le _, Nat.zero_le _⟩ (fun H locs hw hG => ?_)
    have t_o0 := hG.t t_o0
    have hg := hg.tr hG
    refine lv_aload_n hx hb dX11_test_35 rfl (lv_at hl 0 rfl) ?_
    refine lv_iload_n hx hb dX11_test_36 rfl (lv_at hl 2 rfl) ?_
    refine lv_if_eq (tgt := 45) hx hb dX11_test_37 (by decide) (fun c6 => ?_) (fun c6 => ?_)
    · rw [if_pos c6] at h
      refine lv_bipush (v := 8) hx hb dX11_test_45 (by decide) ?_
      exact J47 o0 (8 : Int32) q4.2 _ _ _ h hw hg t_o0 (lv_sub hl [] rfl)
    · rw [if_neg c6] at h
      refine lv_bipush (v := 7) hx hb dX11_test_40 (by decide) ?_
      refine lv_goto (tgt := 47) hx hb dX11_test_42 (by decide) ?_
      exact J47 o0 (7 : Int32) q4.2 _ _ _ h hw hg t_o0 (lv_sub hl [] rfl)
  rw [f_X11_test] at h
  refine lv_aload_n hx hb dX11_test_0 rfl (lv_at hl 0 rfl) ?_
  refine lv_iload_n hx hb dX11_test_1 rfl (lv_at hl 1 rfl) ?_
  obtain ⟨q1, h_q1, h⟩ := bb h
  refine z_VV E F hw [.int x1] (k_X11_sums l D cy kc tp fr lo hT o0 x1 S h_q1 t_o0) t_o0 cf11 mk_X11_sums vk_X11_sums ml_X11_291 ⟨by simp only [rmK]; omega, by simp only [rmK]; omega⟩ rfl hl.1 rfl (Nat.le_of_ble_eq_true rfl) dX11_test_2 ⟨Nat.zero_le _, Nat.zero_le _⟩ (fun H locs hw hG => ?_)
  have t_o0 := hG.t t_o0
  have hg := hg.tr hG
  refine lv_aload_n hx hb dX11_test_5 rfl (lv_at hl 0 rfl) ?_
  refine lv_bipush (v := 60) hx hb dX11_test_6 (by decide) ?_
  obtain ⟨q2, h_q2, h⟩ := bb h
  refine z_VI E F hw [.int (60 : Int32)] (k_X11_isSign l D cy kc o0 (60 : Int32) q1.2 h_q2 t_o0) t_o0 cf11 mk_X11_isSign vk_X11_isSign ml_X11_199 ⟨by simp only [rmK]; omega, by simp only [rmK]; omega⟩ rfl hl.1 rfl (Nat.le_of_ble_eq_true rfl) dX11_test_8 ⟨Nat.zero_le _, Nat.zero_le _⟩ (fun H locs hw hG => ?_)
  have t_o0 := hG.t t_o0
  have hg := hg.tr hG
  refine lv_istore_n (lv' := [(2, .int q2.1), (0, .ref o0), (1, .int x1)]) hx hb dX11_test_11 rfl hl (by decide) rfl (fun ls hl => ?_)
  refine lv_aload_n hx hb dX11_test_12 rfl (lv_at hl 1 rfl) ?_
  refine lv_bipush (v := 60) hx hb dX11_test_13 (by decide) ?_
  obtain ⟨q3, h_q3, h⟩ := bb h
  refine z_VI E F hw [.int (60 : Int32)] (k_X11_hasSign l D cy kc o0 (60 : Int32) q2.2 h_q3 t_o0) t_o0 cf11 mk_X11_hasSign vk_X11_hasSign ml_X11_294 ⟨by simp only [rmK]; omega, by simp only [rmK]; omega⟩ rfl hl.1 rfl (Nat.le_of_ble_eq_true rfl) dX11_test_15 ⟨Nat.zero_le _, Nat.zero_le _⟩ (fun H locs hw hG => ?_)
  have t_o0 := hG.t t_o0
  have hg := hg.tr hG
  refine lv_if_ne (tgt := 30) hx hb dX11_test_18 (by decide) (fun c9 => ?_) (fun c9 => ?_)
  · rw [if_neg c9] at h
    exact J30 q2.1 q3.2 _ _ _ h hw hg t_o0 (lv_sub hl [1, 2, 0] rfl)
  · rw [if_pos c9] at h
    refine lv_aload_n hx hb dX11_test_21 rfl (lv_at hl 1 rfl) ?_
    refine lv_bipush (v := 61) hx hb dX11_test_22 (by decide) ?_
    obtain ⟨q7, h_q7, h⟩ := bb h
    refine z_VI E F hw [.int (61 : Int32)] (k_X11_hasSign l D cy kc o0 (61 : Int32) q3.2 h_q7 t_o0) t_o0 cf11 mk_X11_hasSign vk_X11_hasSign ml_X11_294 ⟨by simp only [rmK]; omega, by simp only [rmK]; omega⟩ rfl hl.1 rfl (Nat.le_of_ble_eq_true rfl) dX11_test_24 ⟨Nat.zero_le _, Nat.zero_le _⟩ (fun H locs hw hG => ?_)
    have t_o0 := hG.t t_o0
    have hg := hg.tr hG
    refine lv_if_eq (tgt := 51) hx hb dX11_test_27 (by decide) (fun c8 => ?_) (fun c8 => ?_)
    · rw [if_pos c8] at h
      obtain rfl := Option.some.inj h
      exact r_V E hr hlk F hA hw hg dX11_test_51
    · rw [if_neg c8] at h
      exact J30 q2.1 q7.2 _ _ _ h hw hg t_o0 (lv_sub hl [1, 2, 0] rfl)
def f_X11_all_57b5 (tp : Nat → Int32 → PS → Option (Unit × PS)) (o0 : Nat) (x1 : Int32) (w0 : Nat) (y1 : Int32) (S3 : PS) : Option ((PS) ⊕ ((Unit × PS) ⊕ (PS))) :=
  (f_X11_emit w0 y1 (0 : Int32) S3).bind fun q5 => some (.inl (q5.2))
def f_X11_all_23b5 (tp : Nat → Int32 → PS → Option (Unit × PS)) (o0 : Nat) (x1 : Int32) (S3 : PS) : Option ((PS) ⊕ ((Unit × PS) ⊕ (PS))) :=
  (f_X11_isWord o0 (15 : Int32) S3).bind fun q3 => (f_X11_test tp o0 x1 (pI q3.2 o0 7 ((sI q3.2 o0 7) + (1 : Int32)))).bind fun q4 => (if q3.1 = 0 then f_X11_all_57b5 tp o0 x1 o0 (10 : Int32) q4.2 else f_X11_all_57b5 tp o0 x1 o0 (9 : Int32) q4.2)
def f_X11_all_b5 (tp : Nat → Int32 → PS → Option (Unit × PS)) (o0 : Nat) (x1 : Int32)  (S1 : PS) : Option ((PS) ⊕ ((Unit × PS) ⊕ (PS))) :=
  (f_X11_isWord o0 (15 : Int32) S1).bind fun q2 => (if q2.1 = 0 then (f_X11_isWord o0 (16 : Int32) q2.2).bind fun q7 => (if q7.1 = 0 then some (.inr (.inr (q7.2))) else f_X11_all_23b5 tp o0 x1 q7.2) else f_X11_all_23b5 tp o0 x1 q2.2)
def f_X11_all_64 (tp : Nat → Int32 → PS → Option (Unit × PS))  (S3 : PS) : Option (Unit × PS) :=
  some ((), S3)
def f_X11_all (tp : Nat → Int32 → PS → Option (Unit × PS)) (o0 : Nat) (x1 : Int32) (S : PS) : Option (Unit × PS) :=
  (f_X11_test tp o0 x1 S).bind fun q1 => (loopN (fun a => f_X11_all_b5 tp o0 x1 a) fu (q1.2)).bind (Sum.elim (fun r => some r) (fun a => f_X11_all_64 tp  a))
set_option maxHeartbeats 4000000 in
set_option maxRecDepth 100000 in
theorem k_X11_all (l : Launch) (D : va_G) (cy : Nat → ClassId) (kc : Nat → Nat) (tp : Nat → Int32 → PS → Option (Unit × PS)) (fr lo : Nat) (hT : ∀ (o0 : Nat) (x1 : Int32) (S : PS) (qq : Unit × PS), tp o0 x1 S = some qq → tD S o0 11 → KV l D cy kc yX11_takePart cX11_takePart 6 (rmK fr lo 0 0) [.ref o0, .int x1] S qq.2) (o0 : Nat) (x1 : Int32) (S : PS) {qq : Unit × PS} (h : f_X11_all tp o0 x1 S = some qq) (t_o0 : tD S o0 11) : KV l D cy kc yX11_all cX11_all 3 (rmK (fr + 6) (lo + 201) 0 0) [.ref o0, .int x1] S qq.2 := by
  refine K_body (Qc := QV D cy S qq.2) (by decide) (Nat.le_of_ble_eq_true rfl) ?_
  intro p e s m below meth c A ls args E hr hlk hnm hA F hw hl
  have hx := E.1
  have hb := E.2.1
  have hl : lv_has ls 3 [(0, .ref o0), (1, .int x1)] := hl
  have hg : Gr S S := Gr.rf
  replace h : (f_X11_all tp o0 x1 S).bind some = some qq := by rw [h]; rfl
  have L5 : ∀ (o0 : Nat) (x1 : Int32) (n : Nat)  (S1 : PS) (o : (Unit × PS) ⊕ (PS)), loopN (fun a => f_X11_all_b5 tp o0 x1 a) n (S1) = some o → ∀ (H : Heap) (locs : List Loc) (ls : Array Slot), Wd D cy A s H locs S1 → Gr S S1 → tD S1 o0 11 → lv_has ls 3 [(0, .ref o0), (1, .int x1)] → (∀ (S2 : PS), o = .inr (S2) → ∀ (H : Heap) (locs : List Loc) (ls : Array Slot), Wd D cy A s H locs S2 → Gr S1 S2 → lv_has ls 3 [] → W p l e (rmK (fr + 6) (lo + 201) 0 0) s m args below meth c H locs 0 0 (MQ below (QV D cy S qq.2 s.heap.size) args s 0 0 A) (F0 m 64 ls [])) → (∀ q9, o = .inl q9 → q9 = qq) → W p l e (rmK (fr + 6) (lo + 201) 0 0) s m args below meth c H locs 0 0 (MQ below (QV D cy S qq.2 s.heap.size) args s 0 0 A) (F0 m 5 ls []) := by
    intro o0 x1 n
    induction n with
    | zero => intro  S1 o h; exact absurd h (by simp [loopN])
    | succ n ih =>
      intro  S1 o h H locs ls hw hG0 t_o0 hl hx2 hq2
      have hg : Gr S1 S1 := Gr.rf
      replace h : (f_X11_all_b5 tp o0 x1  S1).bind (Sum.elim (loopN (fun a => f_X11_all_b5 tp o0 x1 a) n) some) = some o := h
      have J57 : ∀ (w0 : Nat) (y1 : Int32) (S3 : PS) (H : Heap) (locs : List Loc) (ls : Array Slot), (f_X11_all_57b5 tp o0 x1 w0 y1 S3).bind (Sum.elim (loopN (fun a => f_X11_all_b5 tp o0 x1 a) n) some) = some o → Wd D cy A s H locs S3 → Gr S1 S3 → tD S3 o0 11 → tD S3 w0 11 → lv_has ls 3 [(0, .ref o0), (1, .int x1)] → W p l e (rmK (fr + 6) (lo + 201) 0 0) s m args below meth c H locs 0 0 (MQ below (QV D cy S qq.2 s.heap.size) args s 0 0 A) (F0 m 57 ls [.int y1, .ref w0]) := by
        intro w0 y1 S3 H locs ls h hw hg t_o0 t_w0 hl
        rw [f_X11_all_57b5] at h
        refine lv_iconst (v := 0) hx hb dX11_all_57 (by decide) ?_
        obtain ⟨q5, h_q5, h⟩ := bb h
        refine z_VV E F hw [.int y1, .int (0 : Int32)] (k_X11_emit l D cy kc w0 y1 (0 : Int32) S3 h_q5 t_w0) t_w0 cf11 mk_X11_emit vk_X11_emit ml_X11_285 ⟨by simp only [rmK]; omega, by simp only [rmK]; omega⟩ rfl hl.1 rfl (Nat.le_of_ble_eq_true rfl) dX11_all_58 ⟨Nat.zero_le _, Nat.zero_le _⟩ (fun H locs hw hG => ?_)
        have t_o0 := hG.t t_o0
        have hg := hg.tr hG
        refine lv_goto (tgt := 5) hx hb dX11_all_61 (by decide) ?_
        exact ih q5.2 _ h _ _ _ hw (hG0.tr hg) t_o0 (lv_sub hl [0, 1] rfl) (fun  S2 he H locs ls hw hG hl => hx2  S2 he H locs ls hw (hg.tr hG) hl) hq2
      have J23 : ∀  (S3 : PS) (H : Heap) (locs : List Loc) (ls : Array Slot), (f_X11_all_23b5 tp o0 x1 S3).bind (Sum.elim (loopN (fun a => f_X11_all_b5 tp o0 x1 a) n) some) = some o → Wd D cy A s H locs S3 → Gr S1 S3 → tD S3 o0 11 → lv_has ls 3 [(0, .ref o0), (1, .int x1)] → W p l e (rmK (fr + 6) (lo + 201) 0 0) s m args below meth c H locs 0 0 (MQ below (QV D cy S qq.2 s.heap.size) args s 0 0 A) (F0 m 23 ls []) := by
        intro  S3 H locs ls h hw hg t_o0 hl
        rw [f_X11_all_23b5] at h
        refine lv_aload_n hx hb dX11_all_23 rfl (lv_at hl 0 rfl) ?_
        refine lv_bipush (v := 15) hx hb dX11_all_24 (by decide) ?_
        obtain ⟨q3, h_q3, h⟩ := bb h
        refine z_VI E F hw [.int (15 : Int32)] (k_X11_isWord l D cy kc o0 (15 : Int32) S3 h_q3 t_o0) t_o0 cf11 mk_X11_isWord vk_X11_isWord ml_X11_206 ⟨by simp only [rmK]; omega, by simp only [rmK]; omega⟩ rfl hl.1 rfl (Nat.le_of_ble_eq_true rfl) dX11_all_26 ⟨Nat.zero_le _, Nat.zero_le _⟩ (fun H locs hw hG => ?_)
        have t_o0 := hG.t t_o0
        have hg := hg.tr hG
        refine lv_istore_n (lv' := [(2, .int q3.1), (0, .ref o0), (1, .int x1)]) hx hb dX11_all_29 rfl hl (by decide) rfl (fun ls hl => ?_)
        refine lv_aload_n hx hb dX11_all_30 rfl (lv_at hl 1 rfl) ?_
        refine lv_dup hx hb dX11_all_31 rfl ?_
        refine g_f E F hw t_o0 cf11 fk_X11_193 dX11_all_32 rfl ?_
        refine lv_iconst (v := 1) hx hb dX11_all_35 (by decide) ?_
        refine lv_iadd hx hb dX11_all_36 ?_
        refine p_I E F hw t_o0 cf11 fk_X11_193 rfl rfl rfl dX11_all_37 rfl (fun H locs hw => ?_)
        refine lv_aload_n hx hb dX11_all_40 rfl (lv_at hl 1 rfl) ?_
        refine lv_iload_n hx hb dX11_all_41 rfl (lv_at hl 2 rfl) ?_
        obtain ⟨q4, h_q4, h⟩ := bb h
        refine z_VV E F hw [.int x1] (k_X11_test l D cy kc tp fr lo hT o0 x1 (pI q3.2 o0 7 ((sI q3.2 o0 7) + (1 : Int32))) h_q4 t_o0) t_o0 cf11 mk_X11_test vk_X11_test ml_X11_288 ⟨by simp only [rmK]; omega, by simp only [rmK]; omega⟩ rfl hl.1 rfl (Nat.le_of_ble_eq_true rfl) dX11_all_42 ⟨Nat.zero_le _, Nat.zero_le _⟩ (fun H locs hw hG => ?_)
        have t_o0 := hG.t t_o0
        have hg := hg.tr hG
        refine lv_aload_n hx hb dX11_all_45 rfl (lv_at hl 1 rfl) ?_
        refine lv_iload_n hx hb dX11_all_46 rfl (lv_at hl 0 rfl) ?_
        refine lv_if_eq (tgt := 55) hx hb dX11_all_47 (by decide) (fun c6 => ?_) (fun c6 => ?_)
        · rw [if_pos c6] at h
          refine lv_bipush (v := 10) hx hb dX11_all_55 (by decide) ?_
          exact J57 o0 (10 : Int32) q4.2 _ _ _ h hw hg t_o0 t_o0 (lv_sub hl [1, 2] rfl)
        · rw [if_neg c6] at h
          refine lv_bipush (v := 9) hx hb dX11_all_50 (by decide) ?_
          refine lv_goto (tgt := 57) hx hb dX11_all_52 (by decide) ?_
          exact J57 o0 (9 : Int32) q4.2 _ _ _ h hw hg t_o0 t_o0 (lv_sub hl [1, 2] rfl)
      rw [f_X11_all_b5] at h
      refine lv_aload_n hx hb dX11_all_5 rfl (lv_at hl 0 rfl) ?_
      refine lv_bipush (v := 15) hx hb dX11_all_6 (by decide) ?_
      obtain ⟨q2, h_q2, h⟩ := bb h
      refine z_VI E F hw [.int (15 : Int32)] (k_X11_isWord l D cy kc o0 (15 : Int32) S1 h_q2 t_o0) t_o0 cf11 mk_X11_isWord vk_X11_isWord ml_X11_206 ⟨by simp only [rmK]; omega, by simp only [rmK]; omega⟩ rfl hl.1 rfl (Nat.le_of_ble_eq_true rfl) dX11_all_8 ⟨Nat.zero_le _, Nat.zero_le _⟩ (fun H locs hw hG => ?_)
      have t_o0 := hG.t t_o0
      have hg := hg.tr hG
      refine lv_if_ne (tgt := 23) hx hb dX11_all_11 (by decide) (fun c9 => ?_) (fun c9 => ?_)
      · rw [if_neg c9] at h
        exact J23  q2.2 _ _ _ h hw hg t_o0 (lv_sub hl [0, 1] rfl)
      · rw [if_pos c9] at h
        refine lv_aload_n hx hb dX11_all_14 rfl (lv_at hl 0 rfl) ?_
        refine lv_bipush (v := 16) hx hb dX11_all_15 (by decide) ?_
        obtain ⟨q7, h_q7, h⟩ := bb h
        refine z_VI E F hw [.int (16 : Int32)] (k_X11_isWord l D cy kc o0 (16 : Int32) q2.2 h_q7 t_o0) t_o0 cf11 mk_X11_isWord vk_X11_isWord ml_X11_206 ⟨by simp only [rmK]; omega, by simp only [rmK]; omega⟩ rfl hl.1 rfl (Nat.le_of_ble_eq_true rfl) dX11_all_17 ⟨Nat.zero_le _, Nat.zero_le _⟩ (fun H locs hw hG => ?_)
        have t_o0 := hG.t t_o0
        have hg := hg.tr hG
        refine lv_if_eq (tgt := 64) hx hb dX11_all_20 (by decide) (fun c8 => ?_) (fun c8 => ?_)
        · rw [if_pos c8] at h
          obtain rfl := Option.some.inj h
          exact hx2 q7.2 rfl _ _ _ hw hg (lv_sub hl [] rfl)
        · rw [if_neg c8] at h
          exact J23  q7.2 _ _ _ h hw hg t_o0 (lv_sub hl [0, 1] rfl)
  have J64 : ∀  (S3 : PS) (H : Heap) (locs : List Loc) (ls : Array Slot), (f_X11_all_64 tp  S3).bind some = some qq → Wd D cy A s H locs S3 → Gr S S3 → lv_has ls 3 [] → W p l e (rmK (fr + 6) (lo + 201) 0 0) s m args below meth c H locs 0 0 (MQ below (QV D cy S qq.2 s.heap.size) args s 0 0 A) (F0 m 64 ls []) := by
    intro  S3 H locs ls h hw hg  hl
    rw [f_X11_all_64] at h
    obtain rfl := Option.some.inj h
    exact r_V E hr hlk F hA hw hg dX11_all_64
  rw [f_X11_all] at h
  refine lv_aload_n hx hb dX11_all_0 rfl (lv_at hl 0 rfl) ?_
  refine lv_iload_n hx hb dX11_all_1 rfl (lv_at hl 1 rfl) ?_
  obtain ⟨q1, h_q1, h⟩ := bb h
  refine z_VV E F hw [.int x1] (k_X11_test l D cy kc tp fr lo hT o0 x1 S h_q1 t_o0) t_o0 cf11 mk_X11_test vk_X11_test ml_X11_288 ⟨by simp only [rmK]; omega, by simp only [rmK]; omega⟩ rfl hl.1 rfl (Nat.le_of_ble_eq_true rfl) dX11_all_2 ⟨Nat.zero_le _, Nat.zero_le _⟩ (fun H locs hw hG => ?_)
  have t_o0 := hG.t t_o0
  have hg := hg.tr hG
  obtain ⟨y10, hy10, h⟩ := bb h
  refine L5 o0 x1 fu q1.2 y10 hy10 _ _ _ hw (hg) t_o0 (lv_sub hl [0, 1] rfl) (fun  S2 he H locs ls hw hG hl => ?_) (fun r he => ?_)
  · subst he
    have hg := hg.tr hG
    exact J64  S2 _ _ _ h hw hg  (lv_sub hl [] rfl)
  · subst he
    exact Option.some.inj h
def f_X11_takePart_267 (tp : Nat → Int32 → PS → Option (Unit × PS)) (o0 : Nat) (w0 : Nat) (y1 : Int32) (y2 : Int32) (S3 : PS) : Option (Unit × PS) :=
  (f_X11_emit w0 y1 y2 S3).bind fun q6 => some ((), pI q6.2 o0 7 ((sI q6.2 o0 7) + (1 : Int32)))
def f_X11_takePart_239 (tp : Nat → Int32 → PS → Option (Unit × PS)) (o0 : Nat) (z2 : Int32) (z3 : Int32) (z4 : Int32) (z5 : Int32) (w0 : Nat) (y1 : Int32) (S3 : PS) : Option (Unit × PS) :=
  (if z2 = 0 then (if z4 = 0 then f_X11_takePart_267 tp o0 w0 y1 z3 S3 else f_X11_takePart_267 tp o0 w0 y1 z5 S3) else (rk S3 (sR S3 o0 6) 14).bind fun b8 => if ib (sI S3 o0 7) (sN S3 b8) = true then f_X11_takePart_267 tp o0 w0 y1 (Int64.toInt32 (sJ S3 b8 (Int32.toNatClampNeg (sI S3 o0 7)))) S3 else none)
def f_X11_takePart_171 (tp : Nat → Int32 → PS → Option (Unit × PS)) (o0 : Nat) (x1 : Int32) (z2 : Int32) (z3 : Int32) (z4 : Int32) (z5 : Int32) (S3 : PS) : Option (Unit × PS) :=
  (if (sI S3 o0 8) ≤ 0 then (f_X11_hasWord o0 (14 : Int32) S3).bind fun q4 => (if q4.1 = 0 then (f_X11_hasSign o0 (40 : Int32) q4.2).bind fun q5 => (if q5.1 = 0 then (if z2 = 0 then f_X11_takePart_239 tp o0 z2 z3 z4 z5 o0 (2 : Int32) q5.2 else f_X11_takePart_239 tp o0 z2 z3 z4 z5 o0 (1 : Int32) q5.2) else (f_X11_all tp o0 (x1 + (1 : Int32)) q5.2).bind fun q12 => (f_X11_takeSign o0 (41 : Int32) q12.2).bind fun q13 => some ((), q13.2)) else (tp o0 (x1 + (1 : Int32)) q4.2).bind fun q15 => (f_X11_emit o0 (3 : Int32) (0 : Int32) q15.2).bind fun q16 => some ((), q16.2)) else some ((), S3))
def f_X11_takePart_161 (tp : Nat → Int32 → PS → Option (Unit × PS)) (o0 : Nat) (x1 : Int32) (z2 : Int32) (z3 : Int32) (z4 : Int32) (z5 : Int32) (S3 : PS) : Option (Unit × PS) :=
  (if x1 = (5 : Int32) then (f_X11_wrong o0 (5 : Int32) S3).bind fun q19 => f_X11_takePart_171 tp o0 x1 z2 z3 z4 z5 q19.2 else f_X11_takePart_171 tp o0 x1 z2 z3 z4 z5 S3)
def f_X11_takePart_138 (tp : Nat → Int32 → PS → Option (Unit × PS)) (o0 : Nat) (x1 : Int32) (z2 : Int32) (z3 : Int32) (z4 : Int32) (z5 : Int32) (S3 : PS) : Option (Unit × PS) :=
  (if z4 = 0 then f_X11_takePart_161 tp o0 x1 z2 z3 z4 z5 S3 else (f_X11_within z5 (0 : Int32) (2 : Int32) S3).bind fun q21 => (if q21.1 = 0 then (f_X11_wrong o0 (2 : Int32) q21.2).bind fun q22 => f_X11_takePart_171 tp o0 x1 z2 z3 z4 z5 q22.2 else f_X11_takePart_161 tp o0 x1 z2 z3 z4 z5 q21.2))
def f_X11_takePart_97 (tp : Nat → Int32 → PS → Option (Unit × PS)) (o0 : Nat) (x1 : Int32) (z2 : Int32) (z3 : Int32) (z4 : Int32) (y0 : Int32) (S3 : PS) : Option (Unit × PS) :=
  (if 0 ≤ z3 then f_X11_takePart_138 tp o0 x1 z2 z3 z4 y0 S3 else (if z4 = 0 then (if z2 = 0 then (f_X11_isSign o0 (40 : Int32) S3).bind fun q25 => (if q25.1 = 0 then (f_X11_isWord o0 (14 : Int32) q25.2).bind fun q26 => (if q26.1 = 0 then (f_X11_wrong o0 (1 : Int32) q26.2).bind fun q27 => f_X11_takePart_171 tp o0 x1 z2 z3 z4 y0 q27.2 else f_X11_takePart_138 tp o0 x1 z2 z3 z4 y0 q26.2) else f_X11_takePart_138 tp o0 x1 z2 z3 z4 y0 q25.2) else f_X11_takePart_138 tp o0 x1 z2 z3 z4 y0 S3) else f_X11_takePart_138 tp o0 x1 z2 z3 z4 y0 S3))
def f_X11_takePart_68 (tp : Nat → Int32 → PS → Option (Unit × PS)) (o0 : Nat) (x1 : Int32) (z2 : Int32) (y0 : Int32) (S3 : PS) : Option (Unit × PS) :=
  (f_X11_isName o0 S3).bind fun q3 => (if q3.1 = 0 then f_X11_takePart_97 tp o0 x1 z2 y0 q3.1 (-1 : Int32) q3.2 else (rk q3.2 (sR q3.2 o0 6) 14).bind fun b33 => if ib (sI q3.2 o0 7) (sN q3.2 b33) = true then (f_X11_nameOf o0 (sJ q3.2 b33 (Int32.toNatClampNeg (sI q3.2 o0 7))) q3.2).bind fun q35 => f_X11_takePart_97 tp o0 x1 z2 y0 q3.1 q35.1 q35.2 else none)
def f_X11_takePart_47 (tp : Nat → Int32 → PS → Option (Unit × PS)) (o0 : Nat) (x1 : Int32) (z2 : Int32) (S3 : PS) : Option (Unit × PS) :=
  (if (sI S3 o0 18) = 0 then f_X11_takePart_68 tp o0 x1 z2 (-1 : Int32) S3 else (f_X11_isWord o0 (8 : Int32) S3).bind fun q37 => (if q37.1 = 0 then f_X11_takePart_68 tp o0 x1 z2 (-1 : Int32) q37.2 else f_X11_takePart_68 tp o0 x1 z2 (4 : Int32) q37.2))
def f_X11_takePart_26 (tp : Nat → Int32 → PS → Option (Unit × PS)) (o0 : Nat) (x1 : Int32) (y0 : Int32) (S3 : PS) : Option (Unit × PS) :=
  (if (sI S3 o0 18) = 0 then f_X11_takePart_47 tp o0 x1 y0 S3 else (f_X11_isWord o0 (17 : Int32) S3).bind fun q40 => (if q40.1 = 0 then f_X11_takePart_47 tp o0 x1 y0 q40.2 else f_X11_takePart_68 tp o0 x1 y0 (3 : Int32) q40.2))
def f_X11_takePartB (tp : Nat → Int32 → PS → Option (Unit × PS)) (o0 : Nat) (x1 : Int32) (S : PS) : Option (Unit × PS) :=
  (if (sI S o0 8) ≤ 0 then (rk S (sR S o0 4) 13).bind fun b1 => if ib (sI S o0 7) (sN S b1) = true then (if (sI S b1 (Int32.toNatClampNeg (sI S o0 7))) = (2 : Int32) then f_X11_takePart_26 tp o0 x1 (1 : Int32) S else f_X11_takePart_26 tp o0 x1 (0 : Int32) S) else none else some ((), S))
set_option maxHeartbeats 4000000 in
set_option maxRecDepth 100000 in
theorem k_X11_takePartB (l : Launch) (D : va_G) (cy : Nat → ClassId) (kc : Nat → Nat) (tp : Nat → Int32 → PS → Option (Unit × PS)) (fr lo : Nat) (hT : ∀ (o0 : Nat) (x1 : Int32) (S : PS) (qq : Unit × PS), tp o0 x1 S = some qq → tD S o0 11 → KV l D cy kc yX11_takePart cX11_takePart 6 (rmK fr lo 0 0) [.ref o0, .int x1] S qq.2) (o0 : Nat) (x1 : Int32) (S : PS) {qq : Unit × PS} (h : f_X11_takePartB tp o0 x1 S = some qq) (t_o0 : tD S o0 11) : KV l D cy kc yX11_takePart cX11_takePart 6 (rmK (fr + 7) (lo + 239) 0 0) [.ref o0, .int x1] S qq.2 := by
  refine K_body (Qc := QV D cy S qq.2) (by decide) (Nat.le_of_ble_eq_true rfl) ?_
  intro p e s m below meth c A ls args E hr hlk hnm hA F hw hl
  have hx := E.1
  have hb := E.2.1
  have hl : lv_has ls 6 [(0, .ref o0), (1, .int x1)] := hl
  have hg : Gr S S := Gr.rf
  replace h : (f_X11_takePartB tp o0 x1 S).bind some = some qq := by rw [h]; rfl
  have J267 : ∀ (w0 : Nat) (y1 : Int32) (y2 : Int32) (S3 : PS) (H : Heap) (locs : List Loc) (ls : Array Slot), (f_X11_takePart_267 tp o0 w0 y1 y2 S3).bind some = some qq → Wd D cy A s H locs S3 → Gr S S3 → tD S3 o0 11 → tD S3 w0 11 → lv_has ls 6 [(0, .ref o0)] → W p l e (rmK (fr + 7) (lo + 239) 0 0) s m args below meth c H locs 0 0 (MQ below (QV D cy S qq.2 s.heap.size) args s 0 0 A) (F0 m 267 ls [.int y2, .int y1, .ref w0]) := by
    intro w0 y1 y2 S3 H locs ls h hw hg t_o0 t_w0 hl
    rw [f_X11_takePart_267] at h
    obtain ⟨q6, h_q6, h⟩ := bb h
    refine z_VV E F hw [.int y1, .int y2] (k_X11_emit l D cy kc w0 y1 y2 S3 h_q6 t_w0) t_w0 cf11 mk_X11_emit vk_X11_emit ml_X11_285 ⟨by simp only [rmK]; omega, by simp only [rmK]; omega⟩ rfl hl.1 rfl (Nat.le_of_ble_eq_true rfl) dX11_takePart_267 ⟨Nat.zero_le _, Nat.zero_le _⟩ (fun H locs hw hG => ?_)
    have t_o0 := hG.t t_o0
    have hg := hg.tr hG
    refine lv_aload_n hx hb dX11_takePart_270 rfl (lv_at hl 0 rfl) ?_
    refine lv_dup hx hb dX11_takePart_271 rfl ?_
    refine g_f E F hw t_o0 cf11 fk_X11_193 dX11_takePart_272 rfl ?_
    refine lv_iconst (v := 1) hx hb dX11_takePart_275 (by decide) ?_
    refine lv_iadd hx hb dX11_takePart_276 ?_
    refine p_I E F hw t_o0 cf11 fk_X11_193 rfl rfl rfl dX11_takePart_277 rfl (fun H locs hw => ?_)
    obtain rfl := Option.some.inj h
    exact r_V E hr hlk F hA hw hg dX11_takePart_280
  have J239 : ∀ (z2 : Int32) (z3 : Int32) (z4 : Int32) (z5 : Int32) (w0 : Nat) (y1 : Int32) (S3 : PS) (H : Heap) (locs : List Loc) (ls : Array Slot), (f_X11_takePart_239 tp o0 z2 z3 z4 z5 w0 y1 S3).bind some = some qq → Wd D cy A s H locs S3 → Gr S S3 → tD S3 o0 11 → tD S3 w0 11 → lv_has ls 6 [(0, .ref o0), (2, .int z2), (3, .int z3), (4, .int z4), (5, .int z5)] → W p l e (rmK (fr + 7) (lo + 239) 0 0) s m args below meth c H locs 0 0 (MQ below (QV D cy S qq.2 s.heap.size) args s 0 0 A) (F0 m 239 ls [.int y1, .ref w0]) := by
    intro z2 z3 z4 z5 w0 y1 S3 H locs ls h hw hg t_o0 t_w0 hl
    rw [f_X11_takePart_239] at h
    refine lv_iload_n hx hb dX11_takePart_239 rfl (lv_at hl 1 rfl) ?_
    refine lv_if_eq (tgt := 256) hx hb dX11_takePart_240 (by decide) (fun c10 => ?_) (fun c10 => ?_)
    · rw [if_pos c10] at h
      refine lv_iload hx hb dX11_takePart_256 (lv_at hl 3 rfl) ?_
      refine lv_if_eq (tgt := 266) hx hb dX11_takePart_258 (by decide) (fun c7 => ?_) (fun c7 => ?_)
      · rw [if_pos c7] at h
        refine lv_iload_n hx hb dX11_takePart_266 rfl (lv_at hl 2 rfl) ?_
        exact J267 w0 y1 z3 S3 _ _ _ h hw hg t_o0 t_w0 (lv_sub hl [0] rfl)
      · rw [if_neg c7] at h
        refine lv_iload hx hb dX11_takePart_261 (lv_at hl 4 rfl) ?_
        refine lv_goto (tgt := 267) hx hb dX11_takePart_263 (by decide) ?_
        exact J267 w0 y1 z5 S3 _ _ _ h hw hg t_o0 t_w0 (lv_sub hl [0] rfl)
    · rw [if_neg c10] at h
      refine lv_aload_n hx hb dX11_takePart_243 rfl (lv_at hl 0 rfl) ?_
      obtain ⟨b8, r_b8, h⟩ := bb h
      obtain ⟨r_b8, t_b8⟩ := rk_some r_b8
      refine g_R E F hw t_o0 cf11 fk_X11_30 dX11_takePart_244 rfl r_b8 ?_
      refine lv_aload_n hx hb dX11_takePart_247 rfl (lv_at hl 0 rfl) ?_
      refine g_f E F hw t_o0 cf11 fk_X11_193 dX11_takePart_248 rfl ?_
      obtain ⟨c9, h⟩ := bg h
      refine a_j E F hw t_b8 c9 dX11_takePart_251 ?_
      refine lv_l2i hx hb dX11_takePart_252 rfl ?_
      refine lv_goto (tgt := 267) hx hb dX11_takePart_253 (by decide) ?_
      exact J267 w0 y1 (Int64.toInt32 (sJ S3 b8 (Int32.toNatClampNeg (sI S3 o0 7)))) S3 _ _ _ h hw hg t_o0 t_w0 (lv_sub hl [0] rfl)
  have J171 : ∀ (z2 : Int32) (z3 : Int32) (z4 : Int32) (z5 : Int32) (S3 : PS) (H : Heap) (locs : List Loc) (ls : Array Slot), (f_X11_takePart_171 tp o0 x1 z2 z3 z4 z5 S3).bind some = some qq → Wd D cy A s H locs S3 → Gr S S3 → tD S3 o0 11 → lv_has ls 6 [(0, .ref o0), (1, .int x1), (2, .int z2), (3, .int z3), (4, .int z4), (5, .int z5)] → W p l e (rmK (fr + 7) (lo + 239) 0 0) s m args below meth c H locs 0 0 (MQ below (QV D cy S qq.2 s.heap.size) args s 0 0 A) (F0 m 171 ls []) := by
    intro z2 z3 z4 z5 S3 H locs ls h hw hg t_o0 hl
    rw [f_X11_takePart_171] at h
    refine lv_aload_n hx hb dX11_takePart_171 rfl (lv_at hl 0 rfl) ?_
    refine g_f E F hw t_o0 cf11 fk_X11_196 dX11_takePart_172 rfl ?_
    refine lv_if_le (tgt := 179) hx hb dX11_takePart_175 (by decide) (fun c18 => ?_) (fun c18 => ?_)
    · rw [if_pos c18] at h
      refine lv_aload_n hx hb dX11_takePart_179 rfl (lv_at hl 0 rfl) ?_
      refine lv_bipush (v := 14) hx hb dX11_takePart_180 (by decide) ?_
      obtain ⟨q4, h_q4, h⟩ := bb h
      refine z_VI E F hw [.int (14 : Int32)] (k_X11_hasWord l D cy kc o0 (14 : Int32) S3 h_q4 t_o0) t_o0 cf11 mk_X11_hasWord vk_X11_hasWord ml_X11_209 ⟨by simp only [rmK]; omega, by simp only [rmK]; omega⟩ rfl hl.1 rfl (Nat.le_of_ble_eq_true rfl) dX11_takePart_182 ⟨Nat.zero_le _, Nat.zero_le _⟩ (fun H locs hw hG => ?_)
      have t_o0 := hG.t t_o0
      have hg := hg.tr hG
      refine lv_if_eq (tgt := 204) hx hb dX11_takePart_185 (by decide) (fun c17 => ?_) (fun c17 => ?_)
      · rw [if_pos c17] at h
        refine lv_aload_n hx hb dX11_takePart_204 rfl (lv_at hl 0 rfl) ?_
        refine lv_bipush (v := 40) hx hb dX11_takePart_205 (by decide) ?_
        obtain ⟨q5, h_q5, h⟩ := bb h
        refine z_VI E F hw [.int (40 : Int32)] (k_X11_hasSign l D cy kc o0 (40 : Int32) q4.2 h_q5 t_o0) t_o0 cf11 mk_X11_hasSign vk_X11_hasSign ml_X11_294 ⟨by simp only [rmK]; omega, by simp only [rmK]; omega⟩ rfl hl.1 rfl (Nat.le_of_ble_eq_true rfl) dX11_takePart_207 ⟨Nat.zero_le _, Nat.zero_le _⟩ (fun H locs hw hG => ?_)
        have t_o0 := hG.t t_o0
        have hg := hg.tr hG
        refine lv_if_eq (tgt := 229) hx hb dX11_takePart_210 (by decide) (fun c14 => ?_) (fun c14 => ?_)
        · rw [if_pos c14] at h
          refine lv_aload_n hx hb dX11_takePart_229 rfl (lv_at hl 0 rfl) ?_
          refine lv_iload_n hx hb dX11_takePart_230 rfl (lv_at hl 2 rfl) ?_
          refine lv_if_eq (tgt := 238) hx hb dX11_takePart_231 (by decide) (fun c11 => ?_) (fun c11 => ?_)
          · rw [if_pos c11] at h
            refine lv_iconst (v := 2) hx hb dX11_takePart_238 (by decide) ?_
            exact J239 z2 z3 z4 z5 o0 (2 : Int32) q5.2 _ _ _ h hw hg t_o0 t_o0 (lv_sub hl [0, 2, 3, 4, 5] rfl)
          · rw [if_neg c11] at h
            refine lv_iconst (v := 1) hx hb dX11_takePart_234 (by decide) ?_
            refine lv_goto (tgt := 239) hx hb dX11_takePart_235 (by decide) ?_
            exact J239 z2 z3 z4 z5 o0 (1 : Int32) q5.2 _ _ _ h hw hg t_o0 t_o0 (lv_sub hl [0, 2, 3, 4, 5] rfl)
        · rw [if_neg c14] at h
          refine lv_aload_n hx hb dX11_takePart_213 rfl (lv_at hl 0 rfl) ?_
          refine lv_iload_n hx hb dX11_takePart_214 rfl (lv_at hl 1 rfl) ?_
          refine lv_iconst (v := 1) hx hb dX11_takePart_215 (by decide) ?_
          refine lv_iadd hx hb dX11_takePart_216 ?_
          obtain ⟨q12, h_q12, h⟩ := bb h
          refine z_VV E F hw [.int (x1 + (1 : Int32))] (k_X11_all l D cy kc tp fr lo hT o0 (x1 + (1 : Int32)) q5.2 h_q12 t_o0) t_o0 cf11 mk_X11_all vk_X11_all ml_X11_282 ⟨by simp only [rmK]; omega, by simp only [rmK]; omega⟩ rfl hl.1 rfl (Nat.le_of_ble_eq_true rfl) dX11_takePart_217 ⟨Nat.zero_le _, Nat.zero_le _⟩ (fun H locs hw hG => ?_)
          have t_o0 := hG.t t_o0
          have hg := hg.tr hG
          refine lv_aload_n hx hb dX11_takePart_220 rfl (lv_at hl 0 rfl) ?_
          refine lv_bipush (v := 41) hx hb dX11_takePart_221 (by decide) ?_
          obtain ⟨q13, h_q13, h⟩ := bb h
          refine z_VV E F hw [.int (41 : Int32)] (k_X11_takeSign l D cy kc o0 (41 : Int32) q12.2 h_q13 t_o0) t_o0 cf11 mk_X11_takeSign vk_X11_takeSign ml_X11_227 ⟨by simp only [rmK]; omega, by simp only [rmK]; omega⟩ rfl hl.1 rfl (Nat.le_of_ble_eq_true rfl) dX11_takePart_223 ⟨Nat.zero_le _, Nat.zero_le _⟩ (fun H locs hw hG => ?_)
          have t_o0 := hG.t t_o0
          have hg := hg.tr hG
          refine lv_goto (tgt := 280) hx hb dX11_takePart_226 (by decide) ?_
          obtain rfl := Option.some.inj h
          exact r_V E hr hlk F hA hw hg dX11_takePart_280
      · rw [if_neg c17] at h
        refine lv_aload_n hx hb dX11_takePart_188 rfl (lv_at hl 0 rfl) ?_
        refine lv_iload_n hx hb dX11_takePart_189 rfl (lv_at hl 1 rfl) ?_
        refine lv_iconst (v := 1) hx hb dX11_takePart_190 (by decide) ?_
        refine lv_iadd hx hb dX11_takePart_191 ?_
        obtain ⟨q15, h_q15, h⟩ := bb h
        refine z_VV E F hw [.int (x1 + (1 : Int32))] (hT o0 (x1 + (1 : Int32)) q4.2 _ h_q15 t_o0) t_o0 cf11 mk_X11_takePart vk_X11_takePart ml_X11_300 ⟨by simp only [rmK]; omega, by simp only [rmK]; omega⟩ rfl hl.1 rfl (Nat.le_of_ble_eq_true rfl) dX11_takePart_192 ⟨Nat.zero_le _, Nat.zero_le _⟩ (fun H locs hw hG => ?_)
        have t_o0 := hG.t t_o0
        have hg := hg.tr hG
        refine lv_aload_n hx hb dX11_takePart_195 rfl (lv_at hl 0 rfl) ?_
        refine lv_iconst (v := 3) hx hb dX11_takePart_196 (by decide) ?_
        refine lv_iconst (v := 0) hx hb dX11_takePart_197 (by decide) ?_
        obtain ⟨q16, h_q16, h⟩ := bb h
        refine z_VV E F hw [.int (3 : Int32), .int (0 : Int32)] (k_X11_emit l D cy kc o0 (3 : Int32) (0 : Int32) q15.2 h_q16 t_o0) t_o0 cf11 mk_X11_emit vk_X11_emit ml_X11_285 ⟨by simp only [rmK]; omega, by simp only [rmK]; omega⟩ rfl hl.1 rfl (Nat.le_of_ble_eq_true rfl) dX11_takePart_198 ⟨Nat.zero_le _, Nat.zero_le _⟩ (fun H locs hw hG => ?_)
        have t_o0 := hG.t t_o0
        have hg := hg.tr hG
        refine lv_goto (tgt := 280) hx hb dX11_takePart_201 (by decide) ?_
        obtain rfl := Option.some.inj h
        exact r_V E hr hlk F hA hw hg dX11_takePart_280
    · rw [if_neg c18] at h
      obtain rfl := Option.some.inj h
      exact r_V E hr hlk F hA hw hg dX11_takePart_178
  have J161 : ∀ (z2 : Int32) (z3 : Int32) (z4 : Int32) (z5 : Int32) (S3 : PS) (H : Heap) (locs : List Loc) (ls : Array Slot), (f_X11_takePart_161 tp o0 x1 z2 z3 z4 z5 S3).bind some = some qq → Wd D cy A s H locs S3 → Gr S S3 → tD S3 o0 11 → lv_has ls 6 [(0, .ref o0), (1, .int x1), (2, .int z2), (3, .int z3), (4, .int z4), (5, .int z5)] → W p l e (rmK (fr + 7) (lo + 239) 0 0) s m args below meth c H locs 0 0 (MQ below (QV D cy S qq.2 s.heap.size) args s 0 0 A) (F0 m 161 ls []) := by
    intro z2 z3 z4 z5 S3 H locs ls h hw hg t_o0 hl
    rw [f_X11_takePart_161] at h
    refine lv_iload_n hx hb dX11_takePart_161 rfl (lv_at hl 1 rfl) ?_
    refine lv_iconst (v := 5) hx hb dX11_takePart_162 (by decide) ?_
    refine lv_icmp_ne (tgt := 171) hx hb dX11_takePart_163 (by decide) (fun c20 => ?_) (fun c20 => ?_)
    · rw [if_neg c20] at h
      exact J171 z2 z3 z4 z5 S3 _ _ _ h hw hg t_o0 (lv_sub hl [0, 1, 2, 3, 4, 5] rfl)
    · rw [if_pos c20] at h
      refine lv_aload_n hx hb dX11_takePart_166 rfl (lv_at hl 0 rfl) ?_
      refine lv_iconst (v := 5) hx hb dX11_takePart_167 (by decide) ?_
      obtain ⟨q19, h_q19, h⟩ := bb h
      refine z_VV E F hw [.int (5 : Int32)] (k_X11_wrong l D cy kc o0 (5 : Int32) S3 h_q19 t_o0) t_o0 cf11 mk_X11_wrong vk_X11_wrong ml_X11_202 ⟨by simp only [rmK]; omega, by simp only [rmK]; omega⟩ rfl hl.1 rfl (Nat.le_of_ble_eq_true rfl) dX11_takePart_168 ⟨Nat.zero_le _, Nat.zero_le _⟩ (fun H locs hw hG => ?_)
      have t_o0 := hG.t t_o0
      have hg := hg.tr hG
      exact J171 z2 z3 z4 z5 q19.2 _ _ _ h hw hg t_o0 (lv_sub hl [0, 1, 2, 3, 4, 5] rfl)
  have J138 : ∀ (z2 : Int32) (z3 : Int32) (z4 : Int32) (z5 : Int32) (S3 : PS) (H : Heap) (locs : List Loc) (ls : Array Slot), (f_X11_takePart_138 tp o0 x1 z2 z3 z4 z5 S3).bind some = some qq → Wd D cy A s H locs S3 → Gr S S3 → tD S3 o0 11 → lv_has ls 6 [(0, .ref o0), (1, .int x1), (2, .int z2), (3, .int z3), (4, .int z4), (5, .int z5)] → W p l e (rmK (fr + 7) (lo + 239) 0 0) s m args below meth c H locs 0 0 (MQ below (QV D cy S qq.2 s.heap.size) args s 0 0 A) (F0 m 138 ls []) := by
    intro z2 z3 z4 z5 S3 H locs ls h hw hg t_o0 hl
    rw [f_X11_takePart_138] at h
    refine lv_iload hx hb dX11_takePart_138 (lv_at hl 4 rfl) ?_
    refine lv_if_eq (tgt := 161) hx hb dX11_takePart_140 (by decide) (fun c24 => ?_) (fun c24 => ?_)
    · rw [if_pos c24] at h
      exact J161 z2 z3 z4 z5 S3 _ _ _ h hw hg t_o0 (lv_sub hl [0, 1, 2, 3, 4, 5] rfl)
    · rw [if_neg c24] at h
      refine lv_iload hx hb dX11_takePart_143 (lv_at hl 5 rfl) ?_
      refine lv_iconst (v := 0) hx hb dX11_takePart_145 (by decide) ?_
      refine lv_iconst (v := 2) hx hb dX11_takePart_146 (by decide) ?_
      obtain ⟨q21, h_q21, h⟩ := bb h
      refine z_SI E F hw [.int z5, .int (0 : Int32), .int (2 : Int32)] (k_X11_within l D cy kc z5 (0 : Int32) (2 : Int32) S3 h_q21) mk_X11_within sk_X11_within ml_X11_303 ⟨by simp only [rmK]; omega, by simp only [rmK]; omega⟩ rfl hl.1 rfl (Nat.le_of_ble_eq_true rfl) dX11_takePart_147 ⟨Nat.zero_le _, Nat.zero_le _⟩ (fun H locs hw hG => ?_)
      have t_o0 := hG.t t_o0
      have hg := hg.tr hG
      refine lv_if_ne (tgt := 161) hx hb dX11_takePart_150 (by decide) (fun c23 => ?_) (fun c23 => ?_)
      · rw [if_neg c23] at h
        exact J161 z2 z3 z4 z5 q21.2 _ _ _ h hw hg t_o0 (lv_sub hl [0, 1, 2, 3, 4, 5] rfl)
      · rw [if_pos c23] at h
        refine lv_aload_n hx hb dX11_takePart_153 rfl (lv_at hl 0 rfl) ?_
        refine lv_iconst (v := 2) hx hb dX11_takePart_154 (by decide) ?_
        obtain ⟨q22, h_q22, h⟩ := bb h
        refine z_VV E F hw [.int (2 : Int32)] (k_X11_wrong l D cy kc o0 (2 : Int32) q21.2 h_q22 t_o0) t_o0 cf11 mk_X11_wrong vk_X11_wrong ml_X11_202 ⟨by simp only [rmK]; omega, by simp only [rmK]; omega⟩ rfl hl.1 rfl (Nat.le_of_ble_eq_true rfl) dX11_takePart_155 ⟨Nat.zero_le _, Nat.zero_le _⟩ (fun H locs hw hG => ?_)
        have t_o0 := hG.t t_o0
        have hg := hg.tr hG
        refine lv_goto (tgt := 171) hx hb dX11_takePart_158 (by decide) ?_
        exact J171 z2 z3 z4 z5 q22.2 _ _ _ h hw hg t_o0 (lv_sub hl [0, 1, 2, 3, 4, 5] rfl)
  have J97 : ∀ (z2 : Int32) (z3 : Int32) (z4 : Int32) (y0 : Int32) (S3 : PS) (H : Heap) (locs : List Loc) (ls : Array Slot), (f_X11_takePart_97 tp o0 x1 z2 z3 z4 y0 S3).bind some = some qq → Wd D cy A s H locs S3 → Gr S S3 → tD S3 o0 11 → lv_has ls 6 [(0, .ref o0), (1, .int x1), (2, .int z2), (3, .int z3), (4, .int z4)] → W p l e (rmK (fr + 7) (lo + 239) 0 0) s m args below meth c H locs 0 0 (MQ below (QV D cy S qq.2 s.heap.size) args s 0 0 A) (F0 m 97 ls [.int y0]) := by
    intro z2 z3 z4 y0 S3 H locs ls h hw hg t_o0 hl
    rw [f_X11_takePart_97] at h
    refine lv_istore (lv' := [(5, .int y0), (0, .ref o0), (1, .int x1), (2, .int z2), (3, .int z3), (4, .int z4)]) hx hb dX11_takePart_97 hl (by decide) rfl (fun ls hl => ?_)
    refine lv_iload_n hx hb dX11_takePart_99 rfl (lv_at hl 4 rfl) ?_
    refine lv_if_ge (tgt := 138) hx hb dX11_takePart_100 (by decide) (fun c32 => ?_) (fun c32 => ?_)
    · rw [if_pos c32] at h
      exact J138 z2 z3 z4 y0 S3 _ _ _ h hw hg t_o0 (lv_sub hl [1, 2, 3, 4, 5, 0] rfl)
    · rw [if_neg c32] at h
      refine lv_iload hx hb dX11_takePart_103 (lv_at hl 5 rfl) ?_
      refine lv_if_ne (tgt := 138) hx hb dX11_takePart_105 (by decide) (fun c31 => ?_) (fun c31 => ?_)
      · rw [if_neg c31] at h
        exact J138 z2 z3 z4 y0 S3 _ _ _ h hw hg t_o0 (lv_sub hl [1, 2, 3, 4, 5, 0] rfl)
      · rw [if_pos c31] at h
        refine lv_iload_n hx hb dX11_takePart_108 rfl (lv_at hl 3 rfl) ?_
        refine lv_if_ne (tgt := 138) hx hb dX11_takePart_109 (by decide) (fun c30 => ?_) (fun c30 => ?_)
        · rw [if_neg c30] at h
          exact J138 z2 z3 z4 y0 S3 _ _ _ h hw hg t_o0 (lv_sub hl [1, 2, 3, 4, 5, 0] rfl)
        · rw [if_pos c30] at h
          refine lv_aload_n hx hb dX11_takePart_112 rfl (lv_at hl 1 rfl) ?_
          refine lv_bipush (v := 40) hx hb dX11_takePart_113 (by decide) ?_
          obtain ⟨q25, h_q25, h⟩ := bb h
          refine z_VI E F hw [.int (40 : Int32)] (k_X11_isSign l D cy kc o0 (40 : Int32) S3 h_q25 t_o0) t_o0 cf11 mk_X11_isSign vk_X11_isSign ml_X11_199 ⟨by simp only [rmK]; omega, by simp only [rmK]; omega⟩ rfl hl.1 rfl (Nat.le_of_ble_eq_true rfl) dX11_takePart_115 ⟨Nat.zero_le _, Nat.zero_le _⟩ (fun H locs hw hG => ?_)
          have t_o0 := hG.t t_o0
          have hg := hg.tr hG
          refine lv_if_ne (tgt := 138) hx hb dX11_takePart_118 (by decide) (fun c29 => ?_) (fun c29 => ?_)
          · rw [if_neg c29] at h
            exact J138 z2 z3 z4 y0 q25.2 _ _ _ h hw hg t_o0 (lv_sub hl [1, 2, 3, 4, 5, 0] rfl)
          · rw [if_pos c29] at h
            refine lv_aload_n hx hb dX11_takePart_121 rfl (lv_at hl 1 rfl) ?_
            refine lv_bipush (v := 14) hx hb dX11_takePart_122 (by decide) ?_
            obtain ⟨q26, h_q26, h⟩ := bb h
            refine z_VI E F hw [.int (14 : Int32)] (k_X11_isWord l D cy kc o0 (14 : Int32) q25.2 h_q26 t_o0) t_o0 cf11 mk_X11_isWord vk_X11_isWord ml_X11_206 ⟨by simp only [rmK]; omega, by simp only [rmK]; omega⟩ rfl hl.1 rfl (Nat.le_of_ble_eq_true rfl) dX11_takePart_124 ⟨Nat.zero_le _, Nat.zero_le _⟩ (fun H locs hw hG => ?_)
            have t_o0 := hG.t t_o0
            have hg := hg.tr hG
            refine lv_if_ne (tgt := 138) hx hb dX11_takePart_127 (by decide) (fun c28 => ?_) (fun c28 => ?_)
            · rw [if_neg c28] at h
              exact J138 z2 z3 z4 y0 q26.2 _ _ _ h hw hg t_o0 (lv_sub hl [1, 2, 3, 4, 5, 0] rfl)
            · rw [if_pos c28] at h
              refine lv_aload_n hx hb dX11_takePart_130 rfl (lv_at hl 1 rfl) ?_
              refine lv_iconst (v := 1) hx hb dX11_takePart_131 (by decide) ?_
              obtain ⟨q27, h_q27, h⟩ := bb h
              refine z_VV E F hw [.int (1 : Int32)] (k_X11_wrong l D cy kc o0 (1 : Int32) q26.2 h_q27 t_o0) t_o0 cf11 mk_X11_wrong vk_X11_wrong ml_X11_202 ⟨by simp only [rmK]; omega, by simp only [rmK]; omega⟩ rfl hl.1 rfl (Nat.le_of_ble_eq_true rfl) dX11_takePart_132 ⟨Nat.zero_le _, Nat.zero_le _⟩ (fun H locs hw hG => ?_)
              have t_o0 := hG.t t_o0
              have hg := hg.tr hG
              refine lv_goto (tgt := 171) hx hb dX11_takePart_135 (by decide) ?_
              exact J171 z2 z3 z4 y0 q27.2 _ _ _ h hw hg t_o0 (lv_sub hl [1, 2, 3, 4, 5, 0] rfl)
  have J68 : ∀ (z2 : Int32) (y0 : Int32) (S3 : PS) (H : Heap) (locs : List Loc) (ls : Array Slot), (f_X11_takePart_68 tp o0 x1 z2 y0 S3).bind some = some qq → Wd D cy A s H locs S3 → Gr S S3 → tD S3 o0 11 → lv_has ls 6 [(0, .ref o0), (1, .int x1), (2, .int z2)] → W p l e (rmK (fr + 7) (lo + 239) 0 0) s m args below meth c H locs 0 0 (MQ below (QV D cy S qq.2 s.heap.size) args s 0 0 A) (F0 m 68 ls [.int y0]) := by
    intro z2 y0 S3 H locs ls h hw hg t_o0 hl
    rw [f_X11_takePart_68] at h
    refine lv_istore_n (lv' := [(3, .int y0), (0, .ref o0), (1, .int x1), (2, .int z2)]) hx hb dX11_takePart_68 rfl hl (by decide) rfl (fun ls hl => ?_)
    refine lv_aload_n hx hb dX11_takePart_69 rfl (lv_at hl 1 rfl) ?_
    obtain ⟨q3, h_q3, h⟩ := bb h
    refine z_VI E F hw [] (k_X11_isName l D cy kc o0 S3 h_q3 t_o0) t_o0 cf11 mk_X11_isName vk_X11_isName ml_X11_256 ⟨by simp only [rmK]; omega, by simp only [rmK]; omega⟩ rfl hl.1 rfl (Nat.le_of_ble_eq_true rfl) dX11_takePart_70 ⟨Nat.zero_le _, Nat.zero_le _⟩ (fun H locs hw hG => ?_)
    have t_o0 := hG.t t_o0
    have hg := hg.tr hG
    refine lv_istore (lv' := [(4, .int q3.1), (3, .int y0), (0, .ref o0), (1, .int x1), (2, .int z2)]) hx hb dX11_takePart_73 hl (by decide) rfl (fun ls hl => ?_)
    refine lv_iload hx hb dX11_takePart_75 (lv_at hl 0 rfl) ?_
    refine lv_if_eq (tgt := 96) hx hb dX11_takePart_77 (by decide) (fun c36 => ?_) (fun c36 => ?_)
    · rw [if_pos c36] at h
      refine lv_iconst (v := (-1)) hx hb dX11_takePart_96 (by decide) ?_
      exact J97 z2 y0 q3.1 (-1 : Int32) q3.2 _ _ _ h hw hg t_o0 (lv_sub hl [2, 3, 4, 1, 0] rfl)
    · rw [if_neg c36] at h
      refine lv_aload_n hx hb dX11_takePart_80 rfl (lv_at hl 2 rfl) ?_
      refine lv_aload_n hx hb dX11_takePart_81 rfl (lv_at hl 2 rfl) ?_
      obtain ⟨b33, r_b33, h⟩ := bb h
      obtain ⟨r_b33, t_b33⟩ := rk_some r_b33
      refine g_R E F hw t_o0 cf11 fk_X11_30 dX11_takePart_82 rfl r_b33 ?_
      refine lv_aload_n hx hb dX11_takePart_85 rfl (lv_at hl 2 rfl) ?_
      refine g_f E F hw t_o0 cf11 fk_X11_193 dX11_takePart_86 rfl ?_
      obtain ⟨c34, h⟩ := bg h
      refine a_j E F hw t_b33 c34 dX11_takePart_89 ?_
      obtain ⟨q35, h_q35, h⟩ := bb h
      refine z_VI E F hw [.long (sJ q3.2 b33 (Int32.toNatClampNeg (sI q3.2 o0 7)))] (k_X11_nameOf l D cy kc o0 (sJ q3.2 b33 (Int32.toNatClampNeg (sI q3.2 o0 7))) q3.2 h_q35 t_o0) t_o0 cf11 mk_X11_nameOf vk_X11_nameOf ml_X11_260 ⟨by simp only [rmK]; omega, by simp only [rmK]; omega⟩ rfl hl.1 rfl (Nat.le_of_ble_eq_true rfl) dX11_takePart_90 ⟨Nat.zero_le _, Nat.zero_le _⟩ (fun H locs hw hG => ?_)
      have t_o0 := hG.t t_o0
      have hg := hg.tr hG
      refine lv_goto (tgt := 97) hx hb dX11_takePart_93 (by decide) ?_
      exact J97 z2 y0 q3.1 q35.1 q35.2 _ _ _ h hw hg t_o0 (lv_sub hl [2, 3, 4, 1, 0] rfl)
  have J47 : ∀ (z2 : Int32) (S3 : PS) (H : Heap) (locs : List Loc) (ls : Array Slot), (f_X11_takePart_47 tp o0 x1 z2 S3).bind some = some qq → Wd D cy A s H locs S3 → Gr S S3 → tD S3 o0 11 → lv_has ls 6 [(0, .ref o0), (1, .int x1), (2, .int z2)] → W p l e (rmK (fr + 7) (lo + 239) 0 0) s m args below meth c H locs 0 0 (MQ below (QV D cy S qq.2 s.heap.size) args s 0 0 A) (F0 m 47 ls []) := by
    intro z2 S3 H locs ls h hw hg t_o0 hl
    rw [f_X11_takePart_47] at h
    refine lv_aload_n hx hb dX11_takePart_47 rfl (lv_at hl 0 rfl) ?_
    refine g_f E F hw t_o0 cf11 fk_X11_270 dX11_takePart_48 rfl ?_
    refine lv_if_eq (tgt := 67) hx hb dX11_takePart_51 (by decide) (fun c39 => ?_) (fun c39 => ?_)
    · rw [if_pos c39] at h
      refine lv_iconst (v := (-1)) hx hb dX11_takePart_67 (by decide) ?_
      exact J68 z2 (-1 : Int32) S3 _ _ _ h hw hg t_o0 (lv_sub hl [0, 1, 2] rfl)
    · rw [if_neg c39] at h
      refine lv_aload_n hx hb dX11_takePart_54 rfl (lv_at hl 0 rfl) ?_
      refine lv_bipush (v := 8) hx hb dX11_takePart_55 (by decide) ?_
      obtain ⟨q37, h_q37, h⟩ := bb h
      refine z_VI E F hw [.int (8 : Int32)] (k_X11_isWord l D cy kc o0 (8 : Int32) S3 h_q37 t_o0) t_o0 cf11 mk_X11_isWord vk_X11_isWord ml_X11_206 ⟨by simp only [rmK]; omega, by simp only [rmK]; omega⟩ rfl hl.1 rfl (Nat.le_of_ble_eq_true rfl) dX11_takePart_57 ⟨Nat.zero_le _, Nat.zero_le _⟩ (fun H locs hw hG => ?_)
      have t_o0 := hG.t t_o0
      have hg := hg.tr hG
      refine lv_if_eq (tgt := 67) hx hb dX11_takePart_60 (by decide) (fun c38 => ?_) (fun c38 => ?_)
      · rw [if_pos c38] at h
        refine lv_iconst (v := (-1)) hx hb dX11_takePart_67 (by decide) ?_
        exact J68 z2 (-1 : Int32) q37.2 _ _ _ h hw hg t_o0 (lv_sub hl [0, 1, 2] rfl)
      · rw [if_neg c38] at h
        refine lv_iconst (v := 4) hx hb dX11_takePart_63 (by decide) ?_
        refine lv_goto (tgt := 68) hx hb dX11_takePart_64 (by decide) ?_
        exact J68 z2 (4 : Int32) q37.2 _ _ _ h hw hg t_o0 (lv_sub hl [0, 1, 2] rfl)
  have J26 : ∀ (y0 : Int32) (S3 : PS) (H : Heap) (locs : List Loc) (ls : Array Slot), (f_X11_takePart_26 tp o0 x1 y0 S3).bind some = some qq → Wd D cy A s H locs S3 → Gr S S3 → tD S3 o0 11 → lv_has ls 6 [(0, .ref o0), (1, .int x1)] → W p l e (rmK (fr + 7) (lo + 239) 0 0) s m args below meth c H locs 0 0 (MQ below (QV D cy S qq.2 s.heap.size) args s 0 0 A) (F0 m 26 ls [.int y0]) := by
    intro y0 S3 H locs ls h hw hg t_o0 hl
    rw [f_X11_takePart_26] at h
    refine lv_istore_n (lv' := [(2, .int y0), (0, .ref o0), (1, .int x1)]) hx hb dX11_takePart_26 rfl hl (by decide) rfl (fun ls hl => ?_)
    refine lv_aload_n hx hb dX11_takePart_27 rfl (lv_at hl 1 rfl) ?_
    refine g_f E F hw t_o0 cf11 fk_X11_270 dX11_takePart_28 rfl ?_
    refine lv_if_eq (tgt := 47) hx hb dX11_takePart_31 (by decide) (fun c42 => ?_) (fun c42 => ?_)
    · rw [if_pos c42] at h
      exact J47 y0 S3 _ _ _ h hw hg t_o0 (lv_sub hl [1, 2, 0] rfl)
    · rw [if_neg c42] at h
      refine lv_aload_n hx hb dX11_takePart_34 rfl (lv_at hl 1 rfl) ?_
      refine lv_bipush (v := 17) hx hb dX11_takePart_35 (by decide) ?_
      obtain ⟨q40, h_q40, h⟩ := bb h
      refine z_VI E F hw [.int (17 : Int32)] (k_X11_isWord l D cy kc o0 (17 : Int32) S3 h_q40 t_o0) t_o0 cf11 mk_X11_isWord vk_X11_isWord ml_X11_206 ⟨by simp only [rmK]; omega, by simp only [rmK]; omega⟩ rfl hl.1 rfl (Nat.le_of_ble_eq_true rfl) dX11_takePart_37 ⟨Nat.zero_le _, Nat.zero_le _⟩ (fun H locs hw hG => ?_)
      have t_o0 := hG.t t_o0
      have hg := hg.tr hG
      refine lv_if_eq (tgt := 47) hx hb dX11_takePart_40 (by decide) (fun c41 => ?_) (fun c41 => ?_)
      · rw [if_pos c41] at h
        exact J47 y0 q40.2 _ _ _ h hw hg t_o0 (lv_sub hl [1, 2, 0] rfl)
      · rw [if_neg c41] at h
        refine lv_iconst (v := 3) hx hb dX11_takePart_43 (by decide) ?_
        refine lv_goto (tgt := 68) hx hb dX11_takePart_44 (by decide) ?_
        exact J68 y0 (3 : Int32) q40.2 _ _ _ h hw hg t_o0 (lv_sub hl [1, 2, 0] rfl)
  rw [f_X11_takePartB] at h
  refine lv_aload_n hx hb dX11_takePart_0 rfl (lv_at hl 0 rfl) ?_
  refine g_f E F hw t_o0 cf11 fk_X11_196 dX11_takePart_1 rfl ?_
  refine lv_if_le (tgt := 8) hx hb dX11_takePart_4 (by decide) (fun c44 => ?_) (fun c44 => ?_)
  · rw [if_pos c44] at h
    refine lv_aload_n hx hb dX11_takePart_8 rfl (lv_at hl 0 rfl) ?_
    obtain ⟨b1, r_b1, h⟩ := bb h
    obtain ⟨r_b1, t_b1⟩ := rk_some r_b1
    refine g_R E F hw t_o0 cf11 fk_X11_24 dX11_takePart_9 rfl r_b1 ?_
    refine lv_aload_n hx hb dX11_takePart_12 rfl (lv_at hl 0 rfl) ?_
    refine g_f E F hw t_o0 cf11 fk_X11_193 dX11_takePart_13 rfl ?_
    obtain ⟨c2, h⟩ := bg h
    refine a_i E F hw t_b1 c2 dX11_takePart_16 ?_
    refine lv_iconst (v := 2) hx hb dX11_takePart_17 (by decide) ?_
    refine lv_icmp_ne (tgt := 25) hx hb dX11_takePart_18 (by decide) (fun c43 => ?_) (fun c43 => ?_)
    · rw [if_neg c43] at h
      refine lv_iconst (v := 0) hx hb dX11_takePart_25 (by decide) ?_
      exact J26 (0 : Int32) S _ _ _ h hw hg t_o0 (lv_sub hl [0, 1] rfl)
    · rw [if_pos c43] at h
      refine lv_iconst (v := 1) hx hb dX11_takePart_21 (by decide) ?_
      refine lv_goto (tgt := 26) hx hb dX11_takePart_22 (by decide) ?_
      exact J26 (1 : Int32) S _ _ _ h hw hg t_o0 (lv_sub hl [0, 1] rfl)
  · rw [if_neg c44] at h
    obtain rfl := Option.some.inj h
    exact r_V E hr hlk F hA hw hg dX11_takePart_7
def f_X11_takePart : Nat → Nat → Int32 → PS → Option (Unit × PS)
  | 0, _, _, _ => none
  | n + 1, o0, x1, S => f_X11_takePartB (f_X11_takePart n) o0 x1 S
theorem k_X11_takePart (l : Launch) (D : va_G) (cy : Nat → ClassId) (kc : Nat → Nat) (n : Nat) : ∀ (o0 : Nat) (x1 : Int32) (S : PS) (qq : Unit × PS), f_X11_takePart n o0 x1 S = some qq → tD S o0 11 → KV l D cy kc yX11_takePart cX11_takePart 6 (rmK (1 + 7 * n) (17 + 239 * n) 0 0) [.ref o0, .int x1] S qq.2 := by
  induction n with
  | zero => intro o0 x1 S qq h; cases h
  | succ n ih =>
    intro o0 x1 S qq h t
    have e1 : 1 + 7 * (n + 1) = (1 + 7 * n) + 7 := by omega
    have e2 : 17 + 239 * (n + 1) = (17 + 239 * n) + 239 := by omega
    rw [e1, e2]
    exact k_X11_takePartB l D cy kc (f_X11_takePart n) _ _ ih o0 x1 S h t
def f_X11_readWhole (o0 : Nat) (S : PS) : Option (Unit × PS) :=
  (f_X11_all (f_X11_takePart 6) o0 (0 : Int32) S).bind fun q1 => (f_X11_emit o0 (0 : Int32) (0 : Int32) q1.2).bind fun q2 => some ((), q2.2)
set_option maxHeartbeats 4000000 in
set_option maxRecDepth 100000 in
theorem k_X11_readWhole (l : Launch) (D : va_G) (cy : Nat → ClassId) (kc : Nat → Nat) (o0 : Nat) (S : PS) {qq : Unit × PS} (h : f_X11_readWhole o0 S = some qq) (t_o0 : tD S o0 11) : KV l D cy kc yX11_readWhole cX11_readWhole 1 (rmK 50 1690 0 0) [.ref o0] S qq.2 := by
  refine K_body (Qc := QV D cy S qq.2) (by decide) (Nat.le_of_ble_eq_true rfl) ?_
  intro p e s m below meth c A ls args E hr hlk hnm hA F hw hl
  have hx := E.1
  have hb := E.2.1
  have hl : lv_has ls 1 [(0, .ref o0)] := hl
  have hg : Gr S S := Gr.rf
  replace h : (f_X11_readWhole o0 S).bind some = some qq := by rw [h]; rfl
  rw [f_X11_readWhole] at h
  refine lv_aload_n hx hb dX11_readWhole_0 rfl (lv_at hl 0 rfl) ?_
  refine lv_iconst (v := 0) hx hb dX11_readWhole_1 (by decide) ?_
  obtain ⟨q1, h_q1, h⟩ := bb h
  refine z_VV E F hw [.int (0 : Int32)] (k_X11_all l D cy kc (f_X11_takePart 6) _ _ (k_X11_takePart l D cy kc 6) o0 (0 : Int32) S h_q1 t_o0) t_o0 cf11 mk_X11_all vk_X11_all ml_X11_282 ⟨by decide, by decide⟩ rfl hl.1 rfl (Nat.le_of_ble_eq_true rfl) dX11_readWhole_2 ⟨Nat.zero_le _, Nat.zero_le _⟩ (fun H locs hw hG => ?_)
  have t_o0 := hG.t t_o0
  have hg := hg.tr hG
  refine lv_aload_n hx hb dX11_readWhole_5 rfl (lv_at hl 0 rfl) ?_
  refine lv_iconst (v := 0) hx hb dX11_readWhole_6 (by decide) ?_
  refine lv_iconst (v := 0) hx hb dX11_readWhole_7 (by decide) ?_
  obtain ⟨q2, h_q2, h⟩ := bb h
  refine z_VV E F hw [.int (0 : Int32), .int (0 : Int32)] (k_X11_emit l D cy kc o0 (0 : Int32) (0 : Int32) q1.2 h_q2 t_o0) t_o0 cf11 mk_X11_emit vk_X11_emit ml_X11_285 ⟨by decide, by decide⟩ rfl hl.1 rfl (Nat.le_of_ble_eq_true rfl) dX11_readWhole_8 ⟨Nat.zero_le _, Nat.zero_le _⟩ (fun H locs hw hG => ?_)
  have t_o0 := hG.t t_o0
  have hg := hg.tr hG
  obtain rfl := Option.some.inj h
  exact r_V E hr hlk F hA hw hg dX11_readWhole_11
def f_X11_readSort (o0 : Nat) (S : PS) : Option (Unit × PS) :=
  (rk S (sR S o0 10) 13).bind fun b1 => if ib (93 : Int32) (sN S b1) = true then (if (sI S b1 (Int32.toNatClampNeg (93 : Int32))) = (4 : Int32) then (f_X11_wrong o0 (5 : Int32) S).bind fun q13 => some ((), q13.2) else (f_X11_takeNewName o0 ((3 : Int32) + (sI S b1 (Int32.toNatClampNeg (93 : Int32)))) (pI S o0 7 ((sI S o0 7) + (1 : Int32)))).bind fun q3 => (f_X11_takeWord o0 (6 : Int32) q3.2).bind fun q4 => (rk q4.2 (sR q4.2 o0 10) 13).bind fun b5 => if ib ((94 : Int32) + (sI S b1 (Int32.toNatClampNeg (93 : Int32)))) (sN q4.2 b5) = true then (rk (pI q4.2 b5 (Int32.toNatClampNeg ((94 : Int32) + (sI S b1 (Int32.toNatClampNeg (93 : Int32))))) (sI q4.2 o0 13)) (sR (pI q4.2 b5 (Int32.toNatClampNeg ((94 : Int32) + (sI S b1 (Int32.toNatClampNeg (93 : Int32))))) (sI q4.2 o0 13)) o0 15) 15).bind fun b7 => if ib (sI S b1 (Int32.toNatClampNeg (93 : Int32))) (sN (pI q4.2 b5 (Int32.toNatClampNeg ((94 : Int32) + (sI S b1 (Int32.toNatClampNeg (93 : Int32))))) (sI q4.2 o0 13)) b7) = true then (f_X11_readWhole o0 (pI (pI (pI q4.2 b5 (Int32.toNatClampNeg ((94 : Int32) + (sI S b1 (Int32.toNatClampNeg (93 : Int32))))) (sI q4.2 o0 13)) b7 (Int32.toNatClampNeg (sI S b1 (Int32.toNatClampNeg (93 : Int32)))) (0 : Int32)) o0 18 (1 : Int32))).bind fun q9 => (rk q9.2 (sR q9.2 o0 10) 13).bind fun b10 => if ib (93 : Int32) (sN q9.2 b10) = true then if ib (93 : Int32) (sN q9.2 b10) = true then some ((), pI q9.2 b10 (Int32.toNatClampNeg (93 : Int32)) ((sI q9.2 b10 (Int32.toNatClampNeg (93 : Int32))) + (1 : Int32))) else none else none else none else none) else none
set_option maxHeartbeats 4000000 in
set_option maxRecDepth 100000 in
theorem k_X11_readSort (l : Launch) (D : va_G) (cy : Nat → ClassId) (kc : Nat → Nat) (o0 : Nat) (S : PS) {qq : Unit × PS} (h : f_X11_readSort o0 S = some qq) (t_o0 : tD S o0 11) : KV l D cy kc yX11_readSort cX11_readSort 2 (rmK 51 1726 0 0) [.ref o0] S qq.2 := by
  refine K_body (Qc := QV D cy S qq.2) (by decide) (Nat.le_of_ble_eq_true rfl) ?_
  intro p e s m below meth c A ls args E hr hlk hnm hA F hw hl
  have hx := E.1
  have hb := E.2.1
  have hl : lv_has ls 2 [(0, .ref o0)] := hl
  have hg : Gr S S := Gr.rf
  replace h : (f_X11_readSort o0 S).bind some = some qq := by rw [h]; rfl
  rw [f_X11_readSort] at h
  refine lv_aload_n hx hb dX11_readSort_0 rfl (lv_at hl 0 rfl) ?_
  obtain ⟨b1, r_b1, h⟩ := bb h
  obtain ⟨r_b1, t_b1⟩ := rk_some r_b1
  refine g_R E F hw t_o0 cf11 fk_X11_73 dX11_readSort_1 rfl r_b1 ?_
  refine lv_bipush (v := 93) hx hb dX11_readSort_4 (by decide) ?_
  obtain ⟨c2, h⟩ := bg h
  refine a_i E F hw t_b1 c2 dX11_readSort_6 ?_
  refine lv_istore_n (lv' := [(1, .int (sI S b1 (Int32.toNatClampNeg (93 : Int32)))), (0, .ref o0)]) hx hb dX11_readSort_7 rfl hl (by decide) rfl (fun ls hl => ?_)
  refine lv_iload_n hx hb dX11_readSort_8 rfl (lv_at hl 0 rfl) ?_
  refine lv_iconst (v := 4) hx hb dX11_readSort_9 (by decide) ?_
  refine lv_icmp_ne (tgt := 19) hx hb dX11_readSort_10 (by decide) (fun c14 => ?_) (fun c14 => ?_)
  · rw [if_neg c14] at h
    refine lv_aload_n hx hb dX11_readSort_19 rfl (lv_at hl 1 rfl) ?_
    refine lv_dup hx hb dX11_readSort_20 rfl ?_
    refine g_f E F hw t_o0 cf11 fk_X11_193 dX11_readSort_21 rfl ?_
    refine lv_iconst (v := 1) hx hb dX11_readSort_24 (by decide) ?_
    refine lv_iadd hx hb dX11_readSort_25 ?_
    refine p_I E F hw t_o0 cf11 fk_X11_193 rfl rfl rfl dX11_readSort_26 rfl (fun H locs hw => ?_)
    refine lv_aload_n hx hb dX11_readSort_29 rfl (lv_at hl 1 rfl) ?_
    refine lv_iconst (v := 3) hx hb dX11_readSort_30 (by decide) ?_
    refine lv_iload_n hx hb dX11_readSort_31 rfl (lv_at hl 0 rfl) ?_
    refine lv_iadd hx hb dX11_readSort_32 ?_
    obtain ⟨q3, h_q3, h⟩ := bb h
    refine z_VV E F hw [.int ((3 : Int32) + (sI S b1 (Int32.toNatClampNeg (93 : Int32))))] (k_X11_takeNewName l D cy kc o0 ((3 : Int32) + (sI S b1 (Int32.toNatClampNeg (93 : Int32)))) (pI S o0 7 ((sI S o0 7) + (1 : Int32))) h_q3 t_o0) t_o0 cf11 mk_X11_takeNewName vk_X11_takeNewName ml_X11_264 ⟨by decide, by decide⟩ rfl hl.1 rfl (Nat.le_of_ble_eq_true rfl) dX11_readSort_33 ⟨Nat.zero_le _, Nat.zero_le _⟩ (fun H locs hw hG => ?_)
    have t_o0 := hG.t t_o0
    have hg := hg.tr hG
    refine lv_aload_n hx hb dX11_readSort_36 rfl (lv_at hl 1 rfl) ?_
    refine lv_bipush (v := 6) hx hb dX11_readSort_37 (by decide) ?_
    obtain ⟨q4, h_q4, h⟩ := bb h
    refine z_VV E F hw [.int (6 : Int32)] (k_X11_takeWord l D cy kc o0 (6 : Int32) q3.2 h_q4 t_o0) t_o0 cf11 mk_X11_takeWord vk_X11_takeWord ml_X11_267 ⟨by decide, by decide⟩ rfl hl.1 rfl (Nat.le_of_ble_eq_true rfl) dX11_readSort_39 ⟨Nat.zero_le _, Nat.zero_le _⟩ (fun H locs hw hG => ?_)
    have t_o0 := hG.t t_o0
    have hg := hg.tr hG
    refine lv_aload_n hx hb dX11_readSort_42 rfl (lv_at hl 1 rfl) ?_
    obtain ⟨b5, r_b5, h⟩ := bb h
    obtain ⟨r_b5, t_b5⟩ := rk_some r_b5
    refine g_R E F hw t_o0 cf11 fk_X11_73 dX11_readSort_43 rfl r_b5 ?_
    refine lv_bipush (v := 94) hx hb dX11_readSort_46 (by decide) ?_
    refine lv_iload_n hx hb dX11_readSort_48 rfl (lv_at hl 0 rfl) ?_
    refine lv_iadd hx hb dX11_readSort_49 ?_
    refine lv_aload_n hx hb dX11_readSort_50 rfl (lv_at hl 1 rfl) ?_
    refine g_f E F hw t_o0 cf11 fk_X11_215 dX11_readSort_51 rfl ?_
    obtain ⟨c6, h⟩ := bg h
    refine b_i E F hw t_b5 c6 dX11_readSort_54 (fun H locs hw => ?_)
    refine lv_aload_n hx hb dX11_readSort_55 rfl (lv_at hl 1 rfl) ?_
    obtain ⟨b7, r_b7, h⟩ := bb h
    obtain ⟨r_b7, t_b7⟩ := rk_some r_b7
    refine g_R E F hw t_o0 cf11 fk_X11_85 dX11_readSort_56 rfl r_b7 ?_
    refine lv_iload_n hx hb dX11_readSort_59 rfl (lv_at hl 0 rfl) ?_
    refine lv_iconst (v := 0) hx hb dX11_readSort_60 (by decide) ?_
    obtain ⟨c8, h⟩ := bg h
    refine b_z E F hw t_b7 c8 rfl dX11_readSort_61 (fun H locs hw => ?_)
    refine lv_aload_n hx hb dX11_readSort_62 rfl (lv_at hl 1 rfl) ?_
    refine lv_iconst (v := 1) hx hb dX11_readSort_63 (by decide) ?_
    refine p_I E F hw t_o0 cf11 fk_X11_270 rfl (isB_nar rfl) (isB_fit rfl) dX11_readSort_64 rfl (fun H locs hw => ?_)
    refine lv_aload_n hx hb dX11_readSort_67 rfl (lv_at hl 1 rfl) ?_
    obtain ⟨q9, h_q9, h⟩ := bb h
    refine z_VV E F hw [] (k_X11_readWhole l D cy kc o0 (pI (pI (pI q4.2 b5 (Int32.toNatClampNeg ((94 : Int32) + (sI S b1 (Int32.toNatClampNeg (93 : Int32))))) (sI q4.2 o0 13)) b7 (Int32.toNatClampNeg (sI S b1 (Int32.toNatClampNeg (93 : Int32)))) (0 : Int32)) o0 18 (1 : Int32)) h_q9 t_o0) t_o0 cf11 mk_X11_readWhole vk_X11_readWhole ml_X11_273 ⟨by decide, by decide⟩ rfl hl.1 rfl (Nat.le_of_ble_eq_true rfl) dX11_readSort_68 ⟨Nat.zero_le _, Nat.zero_le _⟩ (fun H locs hw hG => ?_)
    have t_o0 := hG.t t_o0
    have hg := hg.tr hG
    refine lv_aload_n hx hb dX11_readSort_71 rfl (lv_at hl 1 rfl) ?_
    obtain ⟨b10, r_b10, h⟩ := bb h
    obtain ⟨r_b10, t_b10⟩ := rk_some r_b10
    refine g_R E F hw t_o0 cf11 fk_X11_73 dX11_readSort_72 rfl r_b10 ?_
    refine lv_bipush (v := 93) hx hb dX11_readSort_75 (by decide) ?_
    refine lv_dup2_11 hx hb dX11_readSort_77 rfl rfl ?_
    obtain ⟨c11, h⟩ := bg h
    refine a_i E F hw t_b10 c11 dX11_readSort_78 ?_
    refine lv_iconst (v := 1) hx hb dX11_readSort_79 (by decide) ?_
    refine lv_iadd hx hb dX11_readSort_80 ?_
    obtain ⟨c12, h⟩ := bg h
    refine b_i E F hw t_b10 c12 dX11_readSort_81 (fun H locs hw => ?_)
    obtain rfl := Option.some.inj h
    exact r_V E hr hlk F hA hw hg dX11_readSort_82
  · rw [if_pos c14] at h
    refine lv_aload_n hx hb dX11_readSort_13 rfl (lv_at hl 1 rfl) ?_
    refine lv_iconst (v := 5) hx hb dX11_readSort_14 (by decide) ?_
    obtain ⟨q13, h_q13, h⟩ := bb h
    refine z_VV E F hw [.int (5 : Int32)] (k_X11_wrong l D cy kc o0 (5 : Int32) S h_q13 t_o0) t_o0 cf11 mk_X11_wrong vk_X11_wrong ml_X11_202 ⟨by decide, by decide⟩ rfl hl.1 rfl (Nat.le_of_ble_eq_true rfl) dX11_readSort_15 ⟨Nat.zero_le _, Nat.zero_le _⟩ (fun H locs hw hG => ?_)
    have t_o0 := hG.t t_o0
    have hg := hg.tr hG
    obtain rfl := Option.some.inj h
    exact r_V E hr hlk F hA hw hg dX11_readSort_18
def f_X11_readBar (o0 : Nat) (S : PS) : Option (Unit × PS) :=
  (rk S (sR S o0 10) 13).bind fun b1 => if ib (102 : Int32) (sN S b1) = true then (if (sI S b1 (Int32.toNatClampNeg (102 : Int32))) = (4 : Int32) then (f_X11_wrong o0 (5 : Int32) S).bind fun q9 => some ((), q9.2) else (rk (pI S o0 7 ((sI S o0 7) + (1 : Int32))) (sR (pI S o0 7 ((sI S o0 7) + (1 : Int32))) o0 10) 13).bind fun b3 => if ib ((103 : Int32) + (sI S b1 (Int32.toNatClampNeg (102 : Int32)))) (sN (pI S o0 7 ((sI S o0 7) + (1 : Int32))) b3) = true then (f_X11_readWhole o0 (pI (pI (pI S o0 7 ((sI S o0 7) + (1 : Int32))) b3 (Int32.toNatClampNeg ((103 : Int32) + (sI S b1 (Int32.toNatClampNeg (102 : Int32))))) (sI (pI S o0 7 ((sI S o0 7) + (1 : Int32))) o0 13)) o0 18 (0 : Int32))).bind fun q5 => (rk q5.2 (sR q5.2 o0 10) 13).bind fun b6 => if ib (102 : Int32) (sN q5.2 b6) = true then if ib (102 : Int32) (sN q5.2 b6) = true then some ((), pI q5.2 b6 (Int32.toNatClampNeg (102 : Int32)) ((sI q5.2 b6 (Int32.toNatClampNeg (102 : Int32))) + (1 : Int32))) else none else none else none) else none
set_option maxHeartbeats 4000000 in
set_option maxRecDepth 100000 in
theorem k_X11_readBar (l : Launch) (D : va_G) (cy : Nat → ClassId) (kc : Nat → Nat) (o0 : Nat) (S : PS) {qq : Unit × PS} (h : f_X11_readBar o0 S = some qq) (t_o0 : tD S o0 11) : KV l D cy kc yX11_readBar cX11_readBar 2 (rmK 51 1726 0 0) [.ref o0] S qq.2 := by
  refine K_body (Qc := QV D cy S qq.2) (by decide) (Nat.le_of_ble_eq_true rfl) ?_
  intro p e s m below meth c A ls args E hr hlk hnm hA F hw hl
  have hx := E.1
  have hb := E.2.1
  have hl : lv_has ls 2 [(0, .ref o0)] := hl
  have hg : Gr S S := Gr.rf
  replace h : (f_X11_readBar o0 S).bind some = some qq := by rw [h]; rfl
  rw [f_X11_readBar] at h
  refine lv_aload_n hx hb dX11_readBar_0 rfl (lv_at hl 0 rfl) ?_
  obtain ⟨b1, r_b1, h⟩ := bb h
  obtain ⟨r_b1, t_b1⟩ := rk_some r_b1
  refine g_R E F hw t_o0 cf11 fk_X11_73 dX11_readBar_1 rfl r_b1 ?_
  refine lv_bipush (v := 102) hx hb dX11_readBar_4 (by decide) ?_
  obtain ⟨c2, h⟩ := bg h
  refine a_i E F hw t_b1 c2 dX11_readBar_6 ?_
  refine lv_istore_n (lv' := [(1, .int (sI S b1 (Int32.toNatClampNeg (102 : Int32)))), (0, .ref o0)]) hx hb dX11_readBar_7 rfl hl (by decide) rfl (fun ls hl => ?_)
  refine lv_iload_n hx hb dX11_readBar_8 rfl (lv_at hl 0 rfl) ?_
  refine lv_iconst (v := 4) hx hb dX11_readBar_9 (by decide) ?_
  refine lv_icmp_ne (tgt := 19) hx hb dX11_readBar_10 (by decide) (fun c10 => ?_) (fun c10 => ?_)
  · rw [if_neg c10] at h
    refine lv_aload_n hx hb dX11_readBar_19 rfl (lv_at hl 1 rfl) ?_
    refine lv_dup hx hb dX11_readBar_20 rfl ?_
    refine g_f E F hw t_o0 cf11 fk_X11_193 dX11_readBar_21 rfl ?_
    refine lv_iconst (v := 1) hx hb dX11_readBar_24 (by decide) ?_
    refine lv_iadd hx hb dX11_readBar_25 ?_
    refine p_I E F hw t_o0 cf11 fk_X11_193 rfl rfl rfl dX11_readBar_26 rfl (fun H locs hw => ?_)
    refine lv_aload_n hx hb dX11_readBar_29 rfl (lv_at hl 1 rfl) ?_
    obtain ⟨b3, r_b3, h⟩ := bb h
    obtain ⟨r_b3, t_b3⟩ := rk_some r_b3
    refine g_R E F hw t_o0 cf11 fk_X11_73 dX11_readBar_30 rfl r_b3 ?_
    refine lv_bipush (v := 103) hx hb dX11_readBar_33 (by decide) ?_
    refine lv_iload_n hx hb dX11_readBar_35 rfl (lv_at hl 0 rfl) ?_
    refine lv_iadd hx hb dX11_readBar_36 ?_
    refine lv_aload_n hx hb dX11_readBar_37 rfl (lv_at hl 1 rfl) ?_
    refine g_f E F hw t_o0 cf11 fk_X11_215 dX11_readBar_38 rfl ?_
    obtain ⟨c4, h⟩ := bg h
    refine b_i E F hw t_b3 c4 dX11_readBar_41 (fun H locs hw => ?_)
    refine lv_aload_n hx hb dX11_readBar_42 rfl (lv_at hl 1 rfl) ?_
    refine lv_iconst (v := 0) hx hb dX11_readBar_43 (by decide) ?_
    refine p_I E F hw t_o0 cf11 fk_X11_270 rfl (isB_nar rfl) (isB_fit rfl) dX11_readBar_44 rfl (fun H locs hw => ?_)
    refine lv_aload_n hx hb dX11_readBar_47 rfl (lv_at hl 1 rfl) ?_
    obtain ⟨q5, h_q5, h⟩ := bb h
    refine z_VV E F hw [] (k_X11_readWhole l D cy kc o0 (pI (pI (pI S o0 7 ((sI S o0 7) + (1 : Int32))) b3 (Int32.toNatClampNeg ((103 : Int32) + (sI S b1 (Int32.toNatClampNeg (102 : Int32))))) (sI (pI S o0 7 ((sI S o0 7) + (1 : Int32))) o0 13)) o0 18 (0 : Int32)) h_q5 t_o0) t_o0 cf11 mk_X11_readWhole vk_X11_readWhole ml_X11_273 ⟨by decide, by decide⟩ rfl hl.1 rfl (Nat.le_of_ble_eq_true rfl) dX11_readBar_48 ⟨Nat.zero_le _, Nat.zero_le _⟩ (fun H locs hw hG => ?_)
    have t_o0 := hG.t t_o0
    have hg := hg.tr hG
    refine lv_aload_n hx hb dX11_readBar_51 rfl (lv_at hl 1 rfl) ?_
    obtain ⟨b6, r_b6, h⟩ := bb h
    obtain ⟨r_b6, t_b6⟩ := rk_some r_b6
    refine g_R E F hw t_o0 cf11 fk_X11_73 dX11_readBar_52 rfl r_b6 ?_
    refine lv_bipush (v := 102) hx hb dX11_readBar_55 (by decide) ?_
    refine lv_dup2_11 hx hb dX11_readBar_57 rfl rfl ?_
    obtain ⟨c7, h⟩ := bg h
    refine a_i E F hw t_b6 c7 dX11_readBar_58 ?_
    refine lv_iconst (v := 1) hx hb dX11_readBar_59 (by decide) ?_
    refine lv_iadd hx hb dX11_readBar_60 ?_
    obtain ⟨c8, h⟩ := bg h
    refine b_i E F hw t_b6 c8 dX11_readBar_61 (fun H locs hw => ?_)
    obtain rfl := Option.some.inj h
    exact r_V E hr hlk F hA hw hg dX11_readBar_62
  · rw [if_pos c10] at h
    refine lv_aload_n hx hb dX11_readBar_13 rfl (lv_at hl 1 rfl) ?_
    refine lv_iconst (v := 5) hx hb dX11_readBar_14 (by decide) ?_
    obtain ⟨q9, h_q9, h⟩ := bb h
    refine z_VV E F hw [.int (5 : Int32)] (k_X11_wrong l D cy kc o0 (5 : Int32) S h_q9 t_o0) t_o0 cf11 mk_X11_wrong vk_X11_wrong ml_X11_202 ⟨by decide, by decide⟩ rfl hl.1 rfl (Nat.le_of_ble_eq_true rfl) dX11_readBar_15 ⟨Nat.zero_le _, Nat.zero_le _⟩ (fun H locs hw hG => ?_)
    have t_o0 := hG.t t_o0
    have hg := hg.tr hG
    obtain rfl := Option.some.inj h
    exact r_V E hr hlk F hA hw hg dX11_readBar_18
def f_X11_readLine (o0 : Nat) (S : PS) : Option (Unit × PS) :=
  (f_X11_isWord o0 (0 : Int32) S).bind fun q1 => (if q1.1 = 0 then (f_X11_isWord o0 (5 : Int32) q1.2).bind fun q2 => (if q2.1 = 0 then (f_X11_isWord o0 (7 : Int32) q2.2).bind fun q3 => (if q3.1 = 0 then (f_X11_isWord o0 (8 : Int32) q3.2).bind fun q4 => (if q4.1 = 0 then (f_X11_isWord o0 (11 : Int32) q4.2).bind fun q5 => (if q5.1 = 0 then (f_X11_isWord o0 (12 : Int32) q5.2).bind fun q6 => (if q6.1 = 0 then (f_X11_isWord o0 (13 : Int32) q6.2).bind fun q7 => (if q7.1 = 0 then (f_X11_wrong o0 (1 : Int32) q7.2).bind fun q8 => some ((), q8.2) else (if (sI q7.2 o0 17) = 0 then (rk (pI (pI q7.2 o0 17 (1 : Int32)) o0 7 ((sI (pI q7.2 o0 17 (1 : Int32)) o0 7) + (1 : Int32))) (sR (pI (pI q7.2 o0 17 (1 : Int32)) o0 7 ((sI (pI q7.2 o0 17 (1 : Int32)) o0 7) + (1 : Int32))) o0 10) 13).bind fun b9 => (f_X11_takeNumber o0 (1 : Int32) (16 : Int32) (pI (pI q7.2 o0 17 (1 : Int32)) o0 7 ((sI (pI q7.2 o0 17 (1 : Int32)) o0 7) + (1 : Int32)))).bind fun q10 => if ib (108 : Int32) (sN q10.2 b9) = true then some ((), pI q10.2 b9 (Int32.toNatClampNeg (108 : Int32)) q10.1) else none else (f_X11_wrong o0 (3 : Int32) q7.2).bind fun q12 => some ((), q12.2))) else (if (sI q6.2 o0 16) = 0 then (rk (pI (pI q6.2 o0 16 (1 : Int32)) o0 7 ((sI (pI q6.2 o0 16 (1 : Int32)) o0 7) + (1 : Int32))) (sR (pI (pI q6.2 o0 16 (1 : Int32)) o0 7 ((sI (pI q6.2 o0 16 (1 : Int32)) o0 7) + (1 : Int32))) o0 10) 13).bind fun b15 => (f_X11_takeNumber o0 (1 : Int32) (6 : Int32) (pI (pI q6.2 o0 16 (1 : Int32)) o0 7 ((sI (pI q6.2 o0 16 (1 : Int32)) o0 7) + (1 : Int32)))).bind fun q16 => if ib (107 : Int32) (sN q16.2 b15) = true then some ((), pI q16.2 b15 (Int32.toNatClampNeg (107 : Int32)) q16.1) else none else (f_X11_wrong o0 (3 : Int32) q6.2).bind fun q18 => some ((), q18.2))) else (f_X11_readBar o0 q5.2).bind fun q21 => some ((), q21.2)) else (f_X11_readSpring o0 q4.2).bind fun q23 => some ((), q23.2)) else (f_X11_readChance o0 q3.2).bind fun q25 => some ((), q25.2)) else (f_X11_readSort o0 q2.2).bind fun q27 => some ((), q27.2)) else (f_X11_readThing o0 q1.2).bind fun q29 => some ((), q29.2))
set_option maxHeartbeats 4000000 in
set_option maxRecDepth 100000 in
theorem k_X11_readLine (l : Launch) (D : va_G) (cy : Nat → ClassId) (kc : Nat → Nat) (o0 : Nat) (S : PS) {qq : Unit × PS} (h : f_X11_readLine o0 S = some qq) (t_o0 : tD S o0 11) : KV l D cy kc yX11_readLine cX11_readLine 1 (rmK 52 1763 0 0) [.ref o0] S qq.2 := by
  refine K_body (Qc := QV D cy S qq.2) (by decide) (Nat.le_of_ble_eq_true rfl) ?_
  intro p e s m below meth c A ls args E hr hlk hnm hA F hw hl
  have hx := E.1
  have hb := E.2.1
  have hl : lv_has ls 1 [(0, .ref o0)] := hl
  have hg : Gr S S := Gr.rf
  replace h : (f_X11_readLine o0 S).bind some = some qq := by rw [h]; rfl
  rw [f_X11_readLine] at h
  refine lv_aload_n hx hb dX11_readLine_0 rfl (lv_at hl 0 rfl) ?_
  refine lv_iconst (v := 0) hx hb dX11_readLine_1 (by decide) ?_
  obtain ⟨q1, h_q1, h⟩ := bb h
  refine z_VI E F hw [.int (0 : Int32)] (k_X11_isWord l D cy kc o0 (0 : Int32) S h_q1 t_o0) t_o0 cf11 mk_X11_isWord vk_X11_isWord ml_X11_206 ⟨by decide, by decide⟩ rfl hl.1 rfl (Nat.le_of_ble_eq_true rfl) dX11_readLine_2 ⟨Nat.zero_le _, Nat.zero_le _⟩ (fun H locs hw hG => ?_)
  have t_o0 := hG.t t_o0
  have hg := hg.tr hG
  refine lv_if_eq (tgt := 15) hx hb dX11_readLine_5 (by decide) (fun c30 => ?_) (fun c30 => ?_)
  · rw [if_pos c30] at h
    refine lv_aload_n hx hb dX11_readLine_15 rfl (lv_at hl 0 rfl) ?_
    refine lv_iconst (v := 5) hx hb dX11_readLine_16 (by decide) ?_
    obtain ⟨q2, h_q2, h⟩ := bb h
    refine z_VI E F hw [.int (5 : Int32)] (k_X11_isWord l D cy kc o0 (5 : Int32) q1.2 h_q2 t_o0) t_o0 cf11 mk_X11_isWord vk_X11_isWord ml_X11_206 ⟨by decide, by decide⟩ rfl hl.1 rfl (Nat.le_of_ble_eq_true rfl) dX11_readLine_17 ⟨Nat.zero_le _, Nat.zero_le _⟩ (fun H locs hw hG => ?_)
    have t_o0 := hG.t t_o0
    have hg := hg.tr hG
    refine lv_if_eq (tgt := 30) hx hb dX11_readLine_20 (by decide) (fun c28 => ?_) (fun c28 => ?_)
    · rw [if_pos c28] at h
      refine lv_aload_n hx hb dX11_readLine_30 rfl (lv_at hl 0 rfl) ?_
      refine lv_bipush (v := 7) hx hb dX11_readLine_31 (by decide) ?_
      obtain ⟨q3, h_q3, h⟩ := bb h
      refine z_VI E F hw [.int (7 : Int32)] (k_X11_isWord l D cy kc o0 (7 : Int32) q2.2 h_q3 t_o0) t_o0 cf11 mk_X11_isWord vk_X11_isWord ml_X11_206 ⟨by decide, by decide⟩ rfl hl.1 rfl (Nat.le_of_ble_eq_true rfl) dX11_readLine_33 ⟨Nat.zero_le _, Nat.zero_le _⟩ (fun H locs hw hG => ?_)
      have t_o0 := hG.t t_o0
      have hg := hg.tr hG
      refine lv_if_eq (tgt := 46) hx hb dX11_readLine_36 (by decide) (fun c26 => ?_) (fun c26 => ?_)
      · rw [if_pos c26] at h
        refine lv_aload_n hx hb dX11_readLine_46 rfl (lv_at hl 0 rfl) ?_
        refine lv_bipush (v := 8) hx hb dX11_readLine_47 (by decide) ?_
        obtain ⟨q4, h_q4, h⟩ := bb h
        refine z_VI E F hw [.int (8 : Int32)] (k_X11_isWord l D cy kc o0 (8 : Int32) q3.2 h_q4 t_o0) t_o0 cf11 mk_X11_isWord vk_X11_isWord ml_X11_206 ⟨by decide, by decide⟩ rfl hl.1 rfl (Nat.le_of_ble_eq_true rfl) dX11_readLine_49 ⟨Nat.zero_le _, Nat.zero_le _⟩ (fun H locs hw hG => ?_)
        have t_o0 := hG.t t_o0
        have hg := hg.tr hG
        refine lv_if_eq (tgt := 62) hx hb dX11_readLine_52 (by decide) (fun c24 => ?_) (fun c24 => ?_)
        · rw [if_pos c24] at h
          refine lv_aload_n hx hb dX11_readLine_62 rfl (lv_at hl 0 rfl) ?_
          refine lv_bipush (v := 11) hx hb dX11_readLine_63 (by decide) ?_
          obtain ⟨q5, h_q5, h⟩ := bb h
          refine z_VI E F hw [.int (11 : Int32)] (k_X11_isWord l D cy kc o0 (11 : Int32) q4.2 h_q5 t_o0) t_o0 cf11 mk_X11_isWord vk_X11_isWord ml_X11_206 ⟨by decide, by decide⟩ rfl hl.1 rfl (Nat.le_of_ble_eq_true rfl) dX11_readLine_65 ⟨Nat.zero_le _, Nat.zero_le _⟩ (fun H locs hw hG => ?_)
          have t_o0 := hG.t t_o0
          have hg := hg.tr hG
          refine lv_if_eq (tgt := 78) hx hb dX11_readLine_68 (by decide) (fun c22 => ?_) (fun c22 => ?_)
          · rw [if_pos c22] at h
            refine lv_aload_n hx hb dX11_readLine_78 rfl (lv_at hl 0 rfl) ?_
            refine lv_bipush (v := 12) hx hb dX11_readLine_79 (by decide) ?_
            obtain ⟨q6, h_q6, h⟩ := bb h
            refine z_VI E F hw [.int (12 : Int32)] (k_X11_isWord l D cy kc o0 (12 : Int32) q5.2 h_q6 t_o0) t_o0 cf11 mk_X11_isWord vk_X11_isWord ml_X11_206 ⟨by decide, by decide⟩ rfl hl.1 rfl (Nat.le_of_ble_eq_true rfl) dX11_readLine_81 ⟨Nat.zero_le _, Nat.zero_le _⟩ (fun H locs hw hG => ?_)
            have t_o0 := hG.t t_o0
            have hg := hg.tr hG
            refine lv_if_eq (tgt := 132) hx hb dX11_readLine_84 (by decide) (fun c20 => ?_) (fun c20 => ?_)
            · rw [if_pos c20] at h
              refine lv_aload_n hx hb dX11_readLine_132 rfl (lv_at hl 0 rfl) ?_
              refine lv_bipush (v := 13) hx hb dX11_readLine_133 (by decide) ?_
              obtain ⟨q7, h_q7, h⟩ := bb h
              refine z_VI E F hw [.int (13 : Int32)] (k_X11_isWord l D cy kc o0 (13 : Int32) q6.2 h_q7 t_o0) t_o0 cf11 mk_X11_isWord vk_X11_isWord ml_X11_206 ⟨by decide, by decide⟩ rfl hl.1 rfl (Nat.le_of_ble_eq_true rfl) dX11_readLine_135 ⟨Nat.zero_le _, Nat.zero_le _⟩ (fun H locs hw hG => ?_)
              have t_o0 := hG.t t_o0
              have hg := hg.tr hG
              refine lv_if_eq (tgt := 186) hx hb dX11_readLine_138 (by decide) (fun c14 => ?_) (fun c14 => ?_)
              · rw [if_pos c14] at h
                refine lv_aload_n hx hb dX11_readLine_186 rfl (lv_at hl 0 rfl) ?_
                refine lv_iconst (v := 1) hx hb dX11_readLine_187 (by decide) ?_
                obtain ⟨q8, h_q8, h⟩ := bb h
                refine z_VV E F hw [.int (1 : Int32)] (k_X11_wrong l D cy kc o0 (1 : Int32) q7.2 h_q8 t_o0) t_o0 cf11 mk_X11_wrong vk_X11_wrong ml_X11_202 ⟨by decide, by decide⟩ rfl hl.1 rfl (Nat.le_of_ble_eq_true rfl) dX11_readLine_188 ⟨Nat.zero_le _, Nat.zero_le _⟩ (fun H locs hw hG => ?_)
                have t_o0 := hG.t t_o0
                have hg := hg.tr hG
                obtain rfl := Option.some.inj h
                exact r_V E hr hlk F hA hw hg dX11_readLine_191
              · rw [if_neg c14] at h
                refine lv_aload_n hx hb dX11_readLine_141 rfl (lv_at hl 0 rfl) ?_
                refine g_f E F hw t_o0 cf11 fk_X11_221 dX11_readLine_142 rfl ?_
                refine lv_if_eq (tgt := 154) hx hb dX11_readLine_145 (by decide) (fun c13 => ?_) (fun c13 => ?_)
                · rw [if_pos c13] at h
                  refine lv_aload_n hx hb dX11_readLine_154 rfl (lv_at hl 0 rfl) ?_
                  refine lv_iconst (v := 1) hx hb dX11_readLine_155 (by decide) ?_
                  refine p_I E F hw t_o0 cf11 fk_X11_221 rfl (isB_nar rfl) (isB_fit rfl) dX11_readLine_156 rfl (fun H locs hw => ?_)
                  refine lv_aload_n hx hb dX11_readLine_159 rfl (lv_at hl 0 rfl) ?_
                  refine lv_dup hx hb dX11_readLine_160 rfl ?_
                  refine g_f E F hw t_o0 cf11 fk_X11_193 dX11_readLine_161 rfl ?_
                  refine lv_iconst (v := 1) hx hb dX11_readLine_164 (by decide) ?_
                  refine lv_iadd hx hb dX11_readLine_165 ?_
                  refine p_I E F hw t_o0 cf11 fk_X11_193 rfl rfl rfl dX11_readLine_166 rfl (fun H locs hw => ?_)
                  refine lv_aload_n hx hb dX11_readLine_169 rfl (lv_at hl 0 rfl) ?_
                  obtain ⟨b9, r_b9, h⟩ := bb h
                  obtain ⟨r_b9, t_b9⟩ := rk_some r_b9
                  refine g_R E F hw t_o0 cf11 fk_X11_73 dX11_readLine_170 rfl r_b9 ?_
                  refine lv_bipush (v := 108) hx hb dX11_readLine_173 (by decide) ?_
                  refine lv_aload_n hx hb dX11_readLine_175 rfl (lv_at hl 0 rfl) ?_
                  refine lv_iconst (v := 1) hx hb dX11_readLine_176 (by decide) ?_
                  refine lv_bipush (v := 16) hx hb dX11_readLine_177 (by decide) ?_
                  obtain ⟨q10, h_q10, h⟩ := bb h
                  refine z_VI E F hw [.int (1 : Int32), .int (16 : Int32)] (k_X11_takeNumber l D cy kc o0 (1 : Int32) (16 : Int32) (pI (pI q7.2 o0 17 (1 : Int32)) o0 7 ((sI (pI q7.2 o0 17 (1 : Int32)) o0 7) + (1 : Int32))) h_q10 t_o0) t_o0 cf11 mk_X11_takeNumber vk_X11_takeNumber ml_X11_252 ⟨by decide, by decide⟩ rfl hl.1 rfl (Nat.le_of_ble_eq_true rfl) dX11_readLine_179 ⟨Nat.zero_le _, Nat.zero_le _⟩ (fun H locs hw hG => ?_)
                  have t_o0 := hG.t t_o0
                  have t_b9 := hG.t t_b9
                  have hg := hg.tr hG
                  obtain ⟨c11, h⟩ := bg h
                  refine b_i E F hw t_b9 c11 dX11_readLine_182 (fun H locs hw => ?_)
                  refine lv_goto (tgt := 191) hx hb dX11_readLine_183 (by decide) ?_
                  obtain rfl := Option.some.inj h
                  exact r_V E hr hlk F hA hw hg dX11_readLine_191
                · rw [if_neg c13] at h
                  refine lv_aload_n hx hb dX11_readLine_148 rfl (lv_at hl 0 rfl) ?_
                  refine lv_iconst (v := 3) hx hb dX11_readLine_149 (by decide) ?_
                  obtain ⟨q12, h_q12, h⟩ := bb h
                  refine z_VV E F hw [.int (3 : Int32)] (k_X11_wrong l D cy kc o0 (3 : Int32) q7.2 h_q12 t_o0) t_o0 cf11 mk_X11_wrong vk_X11_wrong ml_X11_202 ⟨by decide, by decide⟩ rfl hl.1 rfl (Nat.le_of_ble_eq_true rfl) dX11_readLine_150 ⟨Nat.zero_le _, Nat.zero_le _⟩ (fun H locs hw hG => ?_)
                  have t_o0 := hG.t t_o0
                  have hg := hg.tr hG
                  obtain rfl := Option.some.inj h
                  exact r_V E hr hlk F hA hw hg dX11_readLine_153
            · rw [if_neg c20] at h
              refine lv_aload_n hx hb dX11_readLine_87 rfl (lv_at hl 0 rfl) ?_
              refine g_f E F hw t_o0 cf11 fk_X11_218 dX11_readLine_88 rfl ?_
              refine lv_if_eq (tgt := 100) hx hb dX11_readLine_91 (by decide) (fun c19 => ?_) (fun c19 => ?_)
              · rw [if_pos c19] at h
                refine lv_aload_n hx hb dX11_readLine_100 rfl (lv_at hl 0 rfl) ?_
                refine lv_iconst (v := 1) hx hb dX11_readLine_101 (by decide) ?_
                refine p_I E F hw t_o0 cf11 fk_X11_218 rfl (isB_nar rfl) (isB_fit rfl) dX11_readLine_102 rfl (fun H locs hw => ?_)
                refine lv_aload_n hx hb dX11_readLine_105 rfl (lv_at hl 0 rfl) ?_
                refine lv_dup hx hb dX11_readLine_106 rfl ?_
                refine g_f E F hw t_o0 cf11 fk_X11_193 dX11_readLine_107 rfl ?_
                refine lv_iconst (v := 1) hx hb dX11_readLine_110 (by decide) ?_
                refine lv_iadd hx hb dX11_readLine_111 ?_
                refine p_I E F hw t_o0 cf11 fk_X11_193 rfl rfl rfl dX11_readLine_112 rfl (fun H locs hw => ?_)
                refine lv_aload_n hx hb dX11_readLine_115 rfl (lv_at hl 0 rfl) ?_
                obtain ⟨b15, r_b15, h⟩ := bb h
                obtain ⟨r_b15, t_b15⟩ := rk_some r_b15
                refine g_R E F hw t_o0 cf11 fk_X11_73 dX11_readLine_116 rfl r_b15 ?_
                refine lv_bipush (v := 107) hx hb dX11_readLine_119 (by decide) ?_
                refine lv_aload_n hx hb dX11_readLine_121 rfl (lv_at hl 0 rfl) ?_
                refine lv_iconst (v := 1) hx hb dX11_readLine_122 (by decide) ?_
                refine lv_bipush (v := 6) hx hb dX11_readLine_123 (by decide) ?_
                obtain ⟨q16, h_q16, h⟩ := bb h
                refine z_VI E F hw [.int (1 : Int32), .int (6 : Int32)] (k_X11_takeNumber l D cy kc o0 (1 : Int32) (6 : Int32) (pI (pI q6.2 o0 16 (1 : Int32)) o0 7 ((sI (pI q6.2 o0 16 (1 : Int32)) o0 7) + (1 : Int32))) h_q16 t_o0) t_o0 cf11 mk_X11_takeNumber vk_X11_takeNumber ml_X11_252 ⟨by decide, by decide⟩ rfl hl.1 rfl (Nat.le_of_ble_eq_true rfl) dX11_readLine_125 ⟨Nat.zero_le _, Nat.zero_le _⟩ (fun H locs hw hG => ?_)
                have t_o0 := hG.t t_o0
                have t_b15 := hG.t t_b15
                have hg := hg.tr hG
                obtain ⟨c17, h⟩ := bg h
                refine b_i E F hw t_b15 c17 dX11_readLine_128 (fun H locs hw => ?_)
                refine lv_goto (tgt := 191) hx hb dX11_readLine_129 (by decide) ?_
                obtain rfl := Option.some.inj h
                exact r_V E hr hlk F hA hw hg dX11_readLine_191
              · rw [if_neg c19] at h
                refine lv_aload_n hx hb dX11_readLine_94 rfl (lv_at hl 0 rfl) ?_
                refine lv_iconst (v := 3) hx hb dX11_readLine_95 (by decide) ?_
                obtain ⟨q18, h_q18, h⟩ := bb h
                refine z_VV E F hw [.int (3 : Int32)] (k_X11_wrong l D cy kc o0 (3 : Int32) q6.2 h_q18 t_o0) t_o0 cf11 mk_X11_wrong vk_X11_wrong ml_X11_202 ⟨by decide, by decide⟩ rfl hl.1 rfl (Nat.le_of_ble_eq_true rfl) dX11_readLine_96 ⟨Nat.zero_le _, Nat.zero_le _⟩ (fun H locs hw hG => ?_)
                have t_o0 := hG.t t_o0
                have hg := hg.tr hG
                obtain rfl := Option.some.inj h
                exact r_V E hr hlk F hA hw hg dX11_readLine_99
          · rw [if_neg c22] at h
            refine lv_aload_n hx hb dX11_readLine_71 rfl (lv_at hl 0 rfl) ?_
            obtain ⟨q21, h_q21, h⟩ := bb h
            refine z_VV E F hw [] (k_X11_readBar l D cy kc o0 q5.2 h_q21 t_o0) t_o0 cf11 mk_X11_readBar vk_X11_readBar ml_X11_249 ⟨by decide, by decide⟩ rfl hl.1 rfl (Nat.le_of_ble_eq_true rfl) dX11_readLine_72 ⟨Nat.zero_le _, Nat.zero_le _⟩ (fun H locs hw hG => ?_)
            have t_o0 := hG.t t_o0
            have hg := hg.tr hG
            refine lv_goto (tgt := 191) hx hb dX11_readLine_75 (by decide) ?_
            obtain rfl := Option.some.inj h
            exact r_V E hr hlk F hA hw hg dX11_readLine_191
        · rw [if_neg c24] at h
          refine lv_aload_n hx hb dX11_readLine_55 rfl (lv_at hl 0 rfl) ?_
          obtain ⟨q23, h_q23, h⟩ := bb h
          refine z_VV E F hw [] (k_X11_readSpring l D cy kc o0 q4.2 h_q23 t_o0) t_o0 cf11 mk_X11_readSpring vk_X11_readSpring ml_X11_246 ⟨by decide, by decide⟩ rfl hl.1 rfl (Nat.le_of_ble_eq_true rfl) dX11_readLine_56 ⟨Nat.zero_le _, Nat.zero_le _⟩ (fun H locs hw hG => ?_)
          have t_o0 := hG.t t_o0
          have hg := hg.tr hG
          refine lv_goto (tgt := 191) hx hb dX11_readLine_59 (by decide) ?_
          obtain rfl := Option.some.inj h
          exact r_V E hr hlk F hA hw hg dX11_readLine_191
      · rw [if_neg c26] at h
        refine lv_aload_n hx hb dX11_readLine_39 rfl (lv_at hl 0 rfl) ?_
        obtain ⟨q25, h_q25, h⟩ := bb h
        refine z_VV E F hw [] (k_X11_readChance l D cy kc o0 q3.2 h_q25 t_o0) t_o0 cf11 mk_X11_readChance vk_X11_readChance ml_X11_243 ⟨by decide, by decide⟩ rfl hl.1 rfl (Nat.le_of_ble_eq_true rfl) dX11_readLine_40 ⟨Nat.zero_le _, Nat.zero_le _⟩ (fun H locs hw hG => ?_)
        have t_o0 := hG.t t_o0
        have hg := hg.tr hG
        refine lv_goto (tgt := 191) hx hb dX11_readLine_43 (by decide) ?_
        obtain rfl := Option.some.inj h
        exact r_V E hr hlk F hA hw hg dX11_readLine_191
    · rw [if_neg c28] at h
      refine lv_aload_n hx hb dX11_readLine_23 rfl (lv_at hl 0 rfl) ?_
      obtain ⟨q27, h_q27, h⟩ := bb h
      refine z_VV E F hw [] (k_X11_readSort l D cy kc o0 q2.2 h_q27 t_o0) t_o0 cf11 mk_X11_readSort vk_X11_readSort ml_X11_240 ⟨by decide, by decide⟩ rfl hl.1 rfl (Nat.le_of_ble_eq_true rfl) dX11_readLine_24 ⟨Nat.zero_le _, Nat.zero_le _⟩ (fun H locs hw hG => ?_)
      have t_o0 := hG.t t_o0
      have hg := hg.tr hG
      refine lv_goto (tgt := 191) hx hb dX11_readLine_27 (by decide) ?_
      obtain rfl := Option.some.inj h
      exact r_V E hr hlk F hA hw hg dX11_readLine_191
  · rw [if_neg c30] at h
    refine lv_aload_n hx hb dX11_readLine_8 rfl (lv_at hl 0 rfl) ?_
    obtain ⟨q29, h_q29, h⟩ := bb h
    refine z_VV E F hw [] (k_X11_readThing l D cy kc o0 q1.2 h_q29 t_o0) t_o0 cf11 mk_X11_readThing vk_X11_readThing ml_X11_237 ⟨by decide, by decide⟩ rfl hl.1 rfl (Nat.le_of_ble_eq_true rfl) dX11_readLine_9 ⟨Nat.zero_le _, Nat.zero_le _⟩ (fun H locs hw hG => ?_)
    have t_o0 := hG.t t_o0
    have hg := hg.tr hG
    refine lv_goto (tgt := 191) hx hb dX11_readLine_12 (by decide) ?_
    obtain rfl := Option.some.inj h
    exact r_V E hr hlk F hA hw hg dX11_readLine_191
def f_X11_village_b16 (o0 : Nat) (x1 : Int32) (S1 : PS) : Option ((Int32 × PS) ⊕ ((Int32 × PS) ⊕ (PS))) :=
  (if (80 : Int32) ≤ x1 then some (.inr (.inr (S1))) else (rk S1 (sR S1 o0 10) 13).bind fun b2 => if ib ((80 : Int32) + x1) (sN S1 b2) = true then some (.inl (x1 + 1, pI S1 b2 (Int32.toNatClampNeg ((80 : Int32) + x1)) (0 : Int32))) else none)
def f_X11_village_b65 (o0 : Nat)  (S1 : PS) : Option ((PS) ⊕ ((Int32 × PS) ⊕ (PS))) :=
  (if (sI S1 o0 8) = 0 then (rk S1 (sR S1 o0 4) 13).bind fun b10 => if ib (sI S1 o0 7) (sN S1 b10) = true then (if (sI S1 b10 (Int32.toNatClampNeg (sI S1 o0 7))) = 0 then some (.inr (.inr (S1))) else (f_X11_readLine o0 S1).bind fun q12 => (f_X11_takeSign o0 (59 : Int32) q12.2).bind fun q13 => some (.inl (q13.2))) else none else some (.inr (.inr (S1))))
def f_X11_village_b101 (o0 : Nat) (x1 : Int32) (x2 : Int32) (S1 : PS) : Option ((Int32 × Int32 × PS) ⊕ ((Int32 × PS) ⊕ (Int32 × PS))) :=
  (if (4 : Int32) ≤ x2 then some (.inr (.inr (x1, S1))) else (rk S1 (sR S1 o0 10) 13).bind fun b17 => if ib ((98 : Int32) + x2) (sN S1 b17) = true then some (.inl ((x1 + (sI S1 b17 (Int32.toNatClampNeg ((98 : Int32) + x2)))), x2 + 1, S1)) else none)
def f_X11_village_153 (o0 : Nat) (S3 : PS) : Option (Int32 × PS) :=
  (if (sI S3 o0 8) ≤ 0 then (f_X11_carry o0 (1 : Int32) (0 : Int32) S3).bind fun q21 => some ((0 : Int32), pI (pI (pI q21.2 o0 19 (1 : Int32)) o0 20 (1 : Int32)) o0 40 (0 : Int32)) else some ((sI S3 o0 8), S3))
def f_X11_village_124 (o0 : Nat) (z1 : Int32) (S3 : PS) : Option (Int32 × PS) :=
  (if (sI S3 o0 8) = 0 then (rk S3 (sR S3 o0 10) 13).bind fun b23 => if ib (93 : Int32) (sN S3 b23) = true then (if (sI S3 b23 (Int32.toNatClampNeg (93 : Int32))) ≤ 0 then f_X11_village_153 o0 S3 else (if z1 = (6 : Int32) then f_X11_village_153 o0 S3 else (f_X11_wrong o0 (6 : Int32) S3).bind fun q25 => f_X11_village_153 o0 q25.2)) else none else f_X11_village_153 o0 S3)
def f_X11_village_97 (o0 : Nat) (S3 : PS) : Option (Int32 × PS) :=
  (loopN (fun a => f_X11_village_b101 o0 a.1 a.2.1 a.2.2) fu ((0 : Int32), (0 : Int32), S3)).bind (Sum.elim (fun r => some r) (fun a => f_X11_village_124 o0 a.1 a.2))
def f_X11_village_38 (o0 : Nat) (S3 : PS) : Option (Int32 × PS) :=
  (rk S3 (sR S3 o0 10) 13).bind fun b6 => if ib (107 : Int32) (sN S3 b6) = true then (rk (pI S3 b6 (Int32.toNatClampNeg (107 : Int32)) (4 : Int32)) (sR (pI S3 b6 (Int32.toNatClampNeg (107 : Int32)) (4 : Int32)) o0 10) 13).bind fun b8 => if ib (108 : Int32) (sN (pI S3 b6 (Int32.toNatClampNeg (107 : Int32)) (4 : Int32)) b8) = true then (loopN (fun a => f_X11_village_b65 o0 a) fu (pI (pI (pI (pI S3 b6 (Int32.toNatClampNeg (107 : Int32)) (4 : Int32)) b8 (Int32.toNatClampNeg (108 : Int32)) (8 : Int32)) o0 16 (0 : Int32)) o0 17 (0 : Int32))).bind (Sum.elim (fun r => some r) (fun a => f_X11_village_97 o0 a)) else none else none
def f_X11_village (o0 : Nat) (S : PS) : Option (Int32 × PS) :=
  (f_X11_cutAll o0 (pI S o0 0 (0 : Int32))).bind fun q1 => (loopN (fun a => f_X11_village_b16 o0 a.1 a.2) fu ((0 : Int32), pI q1.2 o0 13 (0 : Int32))).bind (Sum.elim (fun r => some r) (fun a => f_X11_village_38 o0 a))
set_option maxHeartbeats 4000000 in
set_option maxRecDepth 100000 in
theorem k_X11_village (l : Launch) (D : va_G) (cy : Nat → ClassId) (kc : Nat → Nat) (o0 : Nat) (S : PS) {qq : Int32 × PS} (h : f_X11_village o0 S = some qq) (t_o0 : tD S o0 11) : KI l D cy kc yX11_village cX11_village 3 .int (rmK 53 1799 0 0) [.ref o0] S qq.1 qq.2 := by
  refine K_body (Qc := QI D cy S qq.2 qq.1) (by decide) (Nat.le_of_ble_eq_true rfl) ?_
  intro p e s m below meth c A ls args E hr hlk hnm hA F hw hl
  have hx := E.1
  have hb := E.2.1
  have hl : lv_has ls 3 [(0, .ref o0)] := hl
  have hg : Gr S S := Gr.rf
  replace h : (f_X11_village o0 S).bind some = some qq := by rw [h]; rfl
  have L16 : ∀ (o0 : Nat) (n : Nat) (x1 : Int32) (S1 : PS) (o : (Int32 × PS) ⊕ (PS)), loopN (fun a => f_X11_village_b16 o0 a.1 a.2) n (x1, S1) = some o → ∀ (H : Heap) (locs : List Loc) (ls : Array Slot), Wd D cy A s H locs S1 → Gr S S1 → tD S1 o0 11 → lv_has ls 3 [(0, .ref o0), (1, .int x1)] → (∀ (S2 : PS), o = .inr (S2) → ∀ (H : Heap) (locs : List Loc) (ls : Array Slot), Wd D cy A s H locs S2 → Gr S1 S2 → lv_has ls 3 [(0, .ref o0)] → W p l e (rmK 53 1799 0 0) s m args below meth c H locs 0 0 (MQ below (QI D cy S qq.2 qq.1 s.heap.size) args s 0 0 A) (F0 m 38 ls [])) → (∀ q9, o = .inl q9 → q9 = qq) → W p l e (rmK 53 1799 0 0) s m args below meth c H locs 0 0 (MQ below (QI D cy S qq.2 qq.1 s.heap.size) args s 0 0 A) (F0 m 16 ls []) := by
    intro o0 n
    induction n with
    | zero => intro x1 S1 o h; exact absurd h (by simp [loopN])
    | succ n ih =>
      intro x1 S1 o h H locs ls hw hG0 t_o0 hl hx2 hq2
      have hg : Gr S1 S1 := Gr.rf
      replace h : (f_X11_village_b16 o0 x1 S1).bind (Sum.elim (loopN (fun a => f_X11_village_b16 o0 a.1 a.2) n) some) = some o := h
      rw [f_X11_village_b16] at h
      refine lv_iload_n hx hb dX11_village_16 rfl (lv_at hl 1 rfl) ?_
      refine lv_bipush (v := 80) hx hb dX11_village_17 (by decide) ?_
      refine lv_icmp_ge (tgt := 38) hx hb dX11_village_19 (by decide) (fun c4 => ?_) (fun c4 => ?_)
      · rw [if_pos c4] at h
        obtain rfl := Option.some.inj h
        exact hx2 S1 rfl _ _ _ hw hg (lv_sub hl [0] rfl)
      · rw [if_neg c4] at h
        refine lv_aload_n hx hb dX11_village_22 rfl (lv_at hl 0 rfl) ?_
        obtain ⟨b2, r_b2, h⟩ := bb h
        obtain ⟨r_b2, t_b2⟩ := rk_some r_b2
        refine g_R E F hw t_o0 cf11 fk_X11_73 dX11_village_23 rfl r_b2 ?_
        refine lv_bipush (v := 80) hx hb dX11_village_26 (by decide) ?_
        refine lv_iload_n hx hb dX11_village_28 rfl (lv_at hl 1 rfl) ?_
        refine lv_iadd hx hb dX11_village_29 ?_
        refine lv_iconst (v := 0) hx hb dX11_village_30 (by decide) ?_
        obtain ⟨c3, h⟩ := bg h
        refine b_i E F hw t_b2 c3 dX11_village_31 (fun H locs hw => ?_)
        refine lv_iinc (v := x1 + 1) (lv' := [(1, .int (x1 + 1)), (0, .ref o0)]) hx hb dX11_village_32 hl (k := 1) rfl rfl (by decide) rfl (fun ls hl => ?_)
        refine lv_goto (tgt := 16) hx hb dX11_village_35 (by decide) ?_
        exact ih (x1 + 1) (pI S1 b2 (Int32.toNatClampNeg ((80 : Int32) + x1)) (0 : Int32)) _ h _ _ _ hw (hG0.tr hg) t_o0 (lv_sub hl [1, 0] rfl) (fun  S2 he H locs ls hw hG hl => hx2  S2 he H locs ls hw (hg.tr hG) hl) hq2
  have L65 : ∀ (o0 : Nat) (n : Nat)  (S1 : PS) (o : (Int32 × PS) ⊕ (PS)), loopN (fun a => f_X11_village_b65 o0 a) n (S1) = some o → ∀ (H : Heap) (locs : List Loc) (ls : Array Slot), Wd D cy A s H locs S1 → Gr S S1 → tD S1 o0 11 → lv_has ls 3 [(0, .ref o0)] → (∀ (S2 : PS), o = .inr (S2) → ∀ (H : Heap) (locs : List Loc) (ls : Array Slot), Wd D cy A s H locs S2 → Gr S1 S2 → lv_has ls 3 [(0, .ref o0)] → W p l e (rmK 53 1799 0 0) s m args below meth c H locs 0 0 (MQ below (QI D cy S qq.2 qq.1 s.heap.size) args s 0 0 A) (F0 m 97 ls [])) → (∀ q9, o = .inl q9 → q9 = qq) → W p l e (rmK 53 1799 0 0) s m args below meth c H locs 0 0 (MQ below (QI D cy S qq.2 qq.1 s.heap.size) args s 0 0 A) (F0 m 65 ls []) := by
    intro o0 n
    induction n with
    | zero => intro  S1 o h; exact absurd h (by simp [loopN])
    | succ n ih =>
      intro  S1 o h H locs ls hw hG0 t_o0 hl hx2 hq2
      have hg : Gr S1 S1 := Gr.rf
      replace h : (f_X11_village_b65 o0  S1).bind (Sum.elim (loopN (fun a => f_X11_village_b65 o0 a) n) some) = some o := h
      rw [f_X11_village_b65] at h
      refine lv_aload_n hx hb dX11_village_65 rfl (lv_at hl 0 rfl) ?_
      refine g_f E F hw t_o0 cf11 fk_X11_196 dX11_village_66 rfl ?_
      refine lv_if_ne (tgt := 97) hx hb dX11_village_69 (by decide) (fun c15 => ?_) (fun c15 => ?_)
      · rw [if_neg c15] at h
        obtain rfl := Option.some.inj h
        exact hx2 S1 rfl _ _ _ hw hg (lv_sub hl [0] rfl)
      · rw [if_pos c15] at h
        refine lv_aload_n hx hb dX11_village_72 rfl (lv_at hl 0 rfl) ?_
        obtain ⟨b10, r_b10, h⟩ := bb h
        obtain ⟨r_b10, t_b10⟩ := rk_some r_b10
        refine g_R E F hw t_o0 cf11 fk_X11_24 dX11_village_73 rfl r_b10 ?_
        refine lv_aload_n hx hb dX11_village_76 rfl (lv_at hl 0 rfl) ?_
        refine g_f E F hw t_o0 cf11 fk_X11_193 dX11_village_77 rfl ?_
        obtain ⟨c11, h⟩ := bg h
        refine a_i E F hw t_b10 c11 dX11_village_80 ?_
        refine lv_if_eq (tgt := 97) hx hb dX11_village_81 (by decide) (fun c14 => ?_) (fun c14 => ?_)
        · rw [if_pos c14] at h
          obtain rfl := Option.some.inj h
          exact hx2 S1 rfl _ _ _ hw hg (lv_sub hl [0] rfl)
        · rw [if_neg c14] at h
          refine lv_aload_n hx hb dX11_village_84 rfl (lv_at hl 0 rfl) ?_
          obtain ⟨q12, h_q12, h⟩ := bb h
          refine z_VV E F hw [] (k_X11_readLine l D cy kc o0 S1 h_q12 t_o0) t_o0 cf11 mk_X11_readLine vk_X11_readLine ml_X11_224 ⟨by decide, by decide⟩ rfl hl.1 rfl (Nat.le_of_ble_eq_true rfl) dX11_village_85 ⟨Nat.zero_le _, Nat.zero_le _⟩ (fun H locs hw hG => ?_)
          have t_o0 := hG.t t_o0
          have hg := hg.tr hG
          refine lv_aload_n hx hb dX11_village_88 rfl (lv_at hl 0 rfl) ?_
          refine lv_bipush (v := 59) hx hb dX11_village_89 (by decide) ?_
          obtain ⟨q13, h_q13, h⟩ := bb h
          refine z_VV E F hw [.int (59 : Int32)] (k_X11_takeSign l D cy kc o0 (59 : Int32) q12.2 h_q13 t_o0) t_o0 cf11 mk_X11_takeSign vk_X11_takeSign ml_X11_227 ⟨by decide, by decide⟩ rfl hl.1 rfl (Nat.le_of_ble_eq_true rfl) dX11_village_91 ⟨Nat.zero_le _, Nat.zero_le _⟩ (fun H locs hw hG => ?_)
          have t_o0 := hG.t t_o0
          have hg := hg.tr hG
          refine lv_goto (tgt := 65) hx hb dX11_village_94 (by decide) ?_
          exact ih q13.2 _ h _ _ _ hw (hG0.tr hg) t_o0 (lv_sub hl [0] rfl) (fun  S2 he H locs ls hw hG hl => hx2  S2 he H locs ls hw (hg.tr hG) hl) hq2
  have L101 : ∀ (o0 : Nat) (n : Nat) (x1 : Int32) (x2 : Int32) (S1 : PS) (o : (Int32 × PS) ⊕ (Int32 × PS)), loopN (fun a => f_X11_village_b101 o0 a.1 a.2.1 a.2.2) n (x1, x2, S1) = some o → ∀ (H : Heap) (locs : List Loc) (ls : Array Slot), Wd D cy A s H locs S1 → Gr S S1 → tD S1 o0 11 → lv_has ls 3 [(0, .ref o0), (1, .int x1), (2, .int x2)] → (∀ (e0 : Int32) (S2 : PS), o = .inr (e0, S2) → ∀ (H : Heap) (locs : List Loc) (ls : Array Slot), Wd D cy A s H locs S2 → Gr S1 S2 → lv_has ls 3 [(0, .ref o0), (1, .int e0)] → W p l e (rmK 53 1799 0 0) s m args below meth c H locs 0 0 (MQ below (QI D cy S qq.2 qq.1 s.heap.size) args s 0 0 A) (F0 m 124 ls [])) → (∀ q9, o = .inl q9 → q9 = qq) → W p l e (rmK 53 1799 0 0) s m args below meth c H locs 0 0 (MQ below (QI D cy S qq.2 qq.1 s.heap.size) args s 0 0 A) (F0 m 101 ls []) := by
    intro o0 n
    induction n with
    | zero => intro x1 x2 S1 o h; exact absurd h (by simp [loopN])
    | succ n ih =>
      intro x1 x2 S1 o h H locs ls hw hG0 t_o0 hl hx2 hq2
      have hg : Gr S1 S1 := Gr.rf
      replace h : (f_X11_village_b101 o0 x1 x2 S1).bind (Sum.elim (loopN (fun a => f_X11_village_b101 o0 a.1 a.2.1 a.2.2) n) some) = some o := h
      rw [f_X11_village_b101] at h
      refine lv_iload_n hx hb dX11_village_101 rfl (lv_at hl 2 rfl) ?_
      refine lv_iconst (v := 4) hx hb dX11_village_102 (by decide) ?_
      refine lv_icmp_ge (tgt := 124) hx hb dX11_village_103 (by decide) (fun c19 => ?_) (fun c19 => ?_)
      · rw [if_pos c19] at h
        obtain rfl := Option.some.inj h
        exact hx2 x1 S1 rfl _ _ _ hw hg (lv_sub hl [0, 1] rfl)
      · rw [if_neg c19] at h
        refine lv_iload_n hx hb dX11_village_106 rfl (lv_at hl 1 rfl) ?_
        refine lv_aload_n hx hb dX11_village_107 rfl (lv_at hl 0 rfl) ?_
        obtain ⟨b17, r_b17, h⟩ := bb h
        obtain ⟨r_b17, t_b17⟩ := rk_some r_b17
        refine g_R E F hw t_o0 cf11 fk_X11_73 dX11_village_108 rfl r_b17 ?_
        refine lv_bipush (v := 98) hx hb dX11_village_111 (by decide) ?_
        refine lv_iload_n hx hb dX11_village_113 rfl (lv_at hl 2 rfl) ?_
        refine lv_iadd hx hb dX11_village_114 ?_
        obtain ⟨c18, h⟩ := bg h
        refine a_i E F hw t_b17 c18 dX11_village_115 ?_
        refine lv_iadd hx hb dX11_village_116 ?_
        refine lv_istore_n (lv' := [(1, .int (x1 + (sI S1 b17 (Int32.toNatClampNeg ((98 : Int32) + x2))))), (0, .ref o0), (2, .int x2)]) hx hb dX11_village_117 rfl hl (by decide) rfl (fun ls hl => ?_)
        refine lv_iinc (v := x2 + 1) (lv' := [(2, .int (x2 + 1)), (1, .int (x1 + (sI S1 b17 (Int32.toNatClampNeg ((98 : Int32) + x2))))), (0, .ref o0)]) hx hb dX11_village_118 hl (k := 2) rfl rfl (by decide) rfl (fun ls hl => ?_)
        refine lv_goto (tgt := 101) hx hb dX11_village_121 (by decide) ?_
        exact ih (x1 + (sI S1 b17 (Int32.toNatClampNeg ((98 : Int32) + x2)))) (x2 + 1) S1 _ h _ _ _ hw (hG0.tr hg) t_o0 (lv_sub hl [2, 1, 0] rfl) (fun e0 S2 he H locs ls hw hG hl => hx2 e0 S2 he H locs ls hw (hg.tr hG) hl) hq2
  have J153 : ∀  (S3 : PS) (H : Heap) (locs : List Loc) (ls : Array Slot), (f_X11_village_153 o0 S3).bind some = some qq → Wd D cy A s H locs S3 → Gr S S3 → tD S3 o0 11 → lv_has ls 3 [(0, .ref o0)] → W p l e (rmK 53 1799 0 0) s m args below meth c H locs 0 0 (MQ below (QI D cy S qq.2 qq.1 s.heap.size) args s 0 0 A) (F0 m 153 ls []) := by
    intro  S3 H locs ls h hw hg t_o0 hl
    rw [f_X11_village_153] at h
    refine lv_aload_n hx hb dX11_village_153 rfl (lv_at hl 0 rfl) ?_
    refine g_f E F hw t_o0 cf11 fk_X11_196 dX11_village_154 rfl ?_
    refine lv_if_le (tgt := 165) hx hb dX11_village_157 (by decide) (fun c22 => ?_) (fun c22 => ?_)
    · rw [if_pos c22] at h
      refine lv_aload_n hx hb dX11_village_165 rfl (lv_at hl 0 rfl) ?_
      refine lv_iconst (v := 1) hx hb dX11_village_166 (by decide) ?_
      refine lv_iconst (v := 0) hx hb dX11_village_167 (by decide) ?_
      obtain ⟨q21, h_q21, h⟩ := bb h
      refine z_VV E F hw [.int (1 : Int32), .int (0 : Int32)] (k_X11_carry l D cy kc o0 (1 : Int32) (0 : Int32) S3 h_q21 t_o0) t_o0 cf11 mk_X11_carry vk_X11_carry ml_X11_230 ⟨by decide, by decide⟩ rfl hl.1 rfl (Nat.le_of_ble_eq_true rfl) dX11_village_168 ⟨Nat.zero_le _, Nat.zero_le _⟩ (fun H locs hw hG => ?_)
      have t_o0 := hG.t t_o0
      have hg := hg.tr hG
      refine lv_aload_n hx hb dX11_village_171 rfl (lv_at hl 0 rfl) ?_
      refine lv_iconst (v := 1) hx hb dX11_village_172 (by decide) ?_
      refine p_I E F hw t_o0 cf11 fk_X11_163 rfl (isB_nar rfl) (isB_fit rfl) dX11_village_173 rfl (fun H locs hw => ?_)
      refine lv_aload_n hx hb dX11_village_176 rfl (lv_at hl 0 rfl) ?_
      refine lv_iconst (v := 1) hx hb dX11_village_177 (by decide) ?_
      refine p_I E F hw t_o0 cf11 fk_X11_167 rfl (isB_nar rfl) (isB_fit rfl) dX11_village_178 rfl (fun H locs hw => ?_)
      refine lv_aload_n hx hb dX11_village_181 rfl (lv_at hl 0 rfl) ?_
      refine lv_iconst (v := 0) hx hb dX11_village_182 (by decide) ?_
      refine p_I E F hw t_o0 cf11 fk_X11_234 rfl rfl rfl dX11_village_183 rfl (fun H locs hw => ?_)
      refine lv_iconst (v := 0) hx hb dX11_village_186 (by decide) ?_
      obtain rfl := Option.some.inj h
      exact r_I E hr hlk F hA hw hg dX11_village_187
    · rw [if_neg c22] at h
      refine lv_aload_n hx hb dX11_village_160 rfl (lv_at hl 0 rfl) ?_
      refine g_f E F hw t_o0 cf11 fk_X11_196 dX11_village_161 rfl ?_
      obtain rfl := Option.some.inj h
      exact r_I E hr hlk F hA hw hg dX11_village_164
  have J124 : ∀ (z1 : Int32) (S3 : PS) (H : Heap) (locs : List Loc) (ls : Array Slot), (f_X11_village_124 o0 z1 S3).bind some = some qq → Wd D cy A s H locs S3 → Gr S S3 → tD S3 o0 11 → lv_has ls 3 [(0, .ref o0), (1, .int z1)] → W p l e (rmK 53 1799 0 0) s m args below meth c H locs 0 0 (MQ below (QI D cy S qq.2 qq.1 s.heap.size) args s 0 0 A) (F0 m 124 ls []) := by
    intro z1 S3 H locs ls h hw hg t_o0 hl
    rw [f_X11_village_124] at h
    refine lv_aload_n hx hb dX11_village_124 rfl (lv_at hl 0 rfl) ?_
    refine g_f E F hw t_o0 cf11 fk_X11_196 dX11_village_125 rfl ?_
    refine lv_if_ne (tgt := 153) hx hb dX11_village_128 (by decide) (fun c28 => ?_) (fun c28 => ?_)
    · rw [if_neg c28] at h
      exact J153  S3 _ _ _ h hw hg t_o0 (lv_sub hl [0] rfl)
    · rw [if_pos c28] at h
      refine lv_aload_n hx hb dX11_village_131 rfl (lv_at hl 0 rfl) ?_
      obtain ⟨b23, r_b23, h⟩ := bb h
      obtain ⟨r_b23, t_b23⟩ := rk_some r_b23
      refine g_R E F hw t_o0 cf11 fk_X11_73 dX11_village_132 rfl r_b23 ?_
      refine lv_bipush (v := 93) hx hb dX11_village_135 (by decide) ?_
      obtain ⟨c24, h⟩ := bg h
      refine a_i E F hw t_b23 c24 dX11_village_137 ?_
      refine lv_if_le (tgt := 153) hx hb dX11_village_138 (by decide) (fun c27 => ?_) (fun c27 => ?_)
      · rw [if_pos c27] at h
        exact J153  S3 _ _ _ h hw hg t_o0 (lv_sub hl [0] rfl)
      · rw [if_neg c27] at h
        refine lv_iload_n hx hb dX11_village_141 rfl (lv_at hl 1 rfl) ?_
        refine lv_bipush (v := 6) hx hb dX11_village_142 (by decide) ?_
        refine lv_icmp_eq (tgt := 153) hx hb dX11_village_144 (by decide) (fun c26 => ?_) (fun c26 => ?_)
        · rw [if_pos c26] at h
          exact J153  S3 _ _ _ h hw hg t_o0 (lv_sub hl [0] rfl)
        · rw [if_neg c26] at h
          refine lv_aload_n hx hb dX11_village_147 rfl (lv_at hl 0 rfl) ?_
          refine lv_bipush (v := 6) hx hb dX11_village_148 (by decide) ?_
          obtain ⟨q25, h_q25, h⟩ := bb h
          refine z_VV E F hw [.int (6 : Int32)] (k_X11_wrong l D cy kc o0 (6 : Int32) S3 h_q25 t_o0) t_o0 cf11 mk_X11_wrong vk_X11_wrong ml_X11_202 ⟨by decide, by decide⟩ rfl hl.1 rfl (Nat.le_of_ble_eq_true rfl) dX11_village_150 ⟨Nat.zero_le _, Nat.zero_le _⟩ (fun H locs hw hG => ?_)
          have t_o0 := hG.t t_o0
          have hg := hg.tr hG
          exact J153  q25.2 _ _ _ h hw hg t_o0 (lv_sub hl [0] rfl)
  have J97 : ∀  (S3 : PS) (H : Heap) (locs : List Loc) (ls : Array Slot), (f_X11_village_97 o0 S3).bind some = some qq → Wd D cy A s H locs S3 → Gr S S3 → tD S3 o0 11 → lv_has ls 3 [(0, .ref o0)] → W p l e (rmK 53 1799 0 0) s m args below meth c H locs 0 0 (MQ below (QI D cy S qq.2 qq.1 s.heap.size) args s 0 0 A) (F0 m 97 ls []) := by
    intro  S3 H locs ls h hw hg t_o0 hl
    rw [f_X11_village_97] at h
    refine lv_iconst (v := 0) hx hb dX11_village_97 (by decide) ?_
    refine lv_istore_n (lv' := [(1, .int (0 : Int32)), (0, .ref o0)]) hx hb dX11_village_98 rfl hl (by decide) rfl (fun ls hl => ?_)
    refine lv_iconst (v := 0) hx hb dX11_village_99 (by decide) ?_
    refine lv_istore_n (lv' := [(2, .int (0 : Int32)), (1, .int (0 : Int32)), (0, .ref o0)]) hx hb dX11_village_100 rfl hl (by decide) rfl (fun ls hl => ?_)
    obtain ⟨y20, hy20, h⟩ := bb h
    refine L101 o0 fu (0 : Int32) (0 : Int32) S3 y20 hy20 _ _ _ hw (hg) t_o0 (lv_sub hl [2, 1, 0] rfl) (fun e0 S2 he H locs ls hw hG hl => ?_) (fun r he => ?_)
    · subst he
      have t_o0 := hG.t t_o0
      have hg := hg.tr hG
      exact J124 e0 S2 _ _ _ h hw hg t_o0 (lv_sub hl [0, 1] rfl)
    · subst he
      exact Option.some.inj h
  have J38 : ∀  (S3 : PS) (H : Heap) (locs : List Loc) (ls : Array Slot), (f_X11_village_38 o0 S3).bind some = some qq → Wd D cy A s H locs S3 → Gr S S3 → tD S3 o0 11 → lv_has ls 3 [(0, .ref o0)] → W p l e (rmK 53 1799 0 0) s m args below meth c H locs 0 0 (MQ below (QI D cy S qq.2 qq.1 s.heap.size) args s 0 0 A) (F0 m 38 ls []) := by
    intro  S3 H locs ls h hw hg t_o0 hl
    rw [f_X11_village_38] at h
    refine lv_aload_n hx hb dX11_village_38 rfl (lv_at hl 0 rfl) ?_
    obtain ⟨b6, r_b6, h⟩ := bb h
    obtain ⟨r_b6, t_b6⟩ := rk_some r_b6
    refine g_R E F hw t_o0 cf11 fk_X11_73 dX11_village_39 rfl r_b6 ?_
    refine lv_bipush (v := 107) hx hb dX11_village_42 (by decide) ?_
    refine lv_iconst (v := 4) hx hb dX11_village_44 (by decide) ?_
    obtain ⟨c7, h⟩ := bg h
    refine b_i E F hw t_b6 c7 dX11_village_45 (fun H locs hw => ?_)
    refine lv_aload_n hx hb dX11_village_46 rfl (lv_at hl 0 rfl) ?_
    obtain ⟨b8, r_b8, h⟩ := bb h
    obtain ⟨r_b8, t_b8⟩ := rk_some r_b8
    refine g_R E F hw t_o0 cf11 fk_X11_73 dX11_village_47 rfl r_b8 ?_
    refine lv_bipush (v := 108) hx hb dX11_village_50 (by decide) ?_
    refine lv_bipush (v := 8) hx hb dX11_village_52 (by decide) ?_
    obtain ⟨c9, h⟩ := bg h
    refine b_i E F hw t_b8 c9 dX11_village_54 (fun H locs hw => ?_)
    refine lv_aload_n hx hb dX11_village_55 rfl (lv_at hl 0 rfl) ?_
    refine lv_iconst (v := 0) hx hb dX11_village_56 (by decide) ?_
    refine p_I E F hw t_o0 cf11 fk_X11_218 rfl (isB_nar rfl) (isB_fit rfl) dX11_village_57 rfl (fun H locs hw => ?_)
    refine lv_aload_n hx hb dX11_village_60 rfl (lv_at hl 0 rfl) ?_
    refine lv_iconst (v := 0) hx hb dX11_village_61 (by decide) ?_
    refine p_I E F hw t_o0 cf11 fk_X11_221 rfl (isB_nar rfl) (isB_fit rfl) dX11_village_62 rfl (fun H locs hw => ?_)
    obtain ⟨y16, hy16, h⟩ := bb h
    refine L65 o0 fu (pI (pI (pI (pI S3 b6 (Int32.toNatClampNeg (107 : Int32)) (4 : Int32)) b8 (Int32.toNatClampNeg (108 : Int32)) (8 : Int32)) o0 16 (0 : Int32)) o0 17 (0 : Int32)) y16 hy16 _ _ _ hw (hg) t_o0 (lv_sub hl [0] rfl) (fun  S2 he H locs ls hw hG hl => ?_) (fun r he => ?_)
    · subst he
      have t_o0 := hG.t t_o0
      have hg := hg.tr hG
      exact J97  S2 _ _ _ h hw hg t_o0 (lv_sub hl [0] rfl)
    · subst he
      exact Option.some.inj h
  rw [f_X11_village] at h
  refine lv_aload_n hx hb dX11_village_0 rfl (lv_at hl 0 rfl) ?_
  refine lv_iconst (v := 0) hx hb dX11_village_1 (by decide) ?_
  refine p_I E F hw t_o0 cf11 fk_X11_1 rfl rfl rfl dX11_village_2 rfl (fun H locs hw => ?_)
  refine lv_aload_n hx hb dX11_village_5 rfl (lv_at hl 0 rfl) ?_
  obtain ⟨q1, h_q1, h⟩ := bb h
  refine z_VV E F hw [] (k_X11_cutAll l D cy kc o0 (pI S o0 0 (0 : Int32)) h_q1 t_o0) t_o0 cf11 mk_X11_cutAll vk_X11_cutAll ml_X11_212 ⟨by decide, by decide⟩ rfl hl.1 rfl (Nat.le_of_ble_eq_true rfl) dX11_village_6 ⟨Nat.zero_le _, Nat.zero_le _⟩ (fun H locs hw hG => ?_)
  have t_o0 := hG.t t_o0
  have hg := hg.tr hG
  refine lv_aload_n hx hb dX11_village_9 rfl (lv_at hl 0 rfl) ?_
  refine lv_iconst (v := 0) hx hb dX11_village_10 (by decide) ?_
  refine p_I E F hw t_o0 cf11 fk_X11_215 rfl rfl rfl dX11_village_11 rfl (fun H locs hw => ?_)
  refine lv_iconst (v := 0) hx hb dX11_village_14 (by decide) ?_
  refine lv_istore_n (lv' := [(1, .int (0 : Int32)), (0, .ref o0)]) hx hb dX11_village_15 rfl hl (by decide) rfl (fun ls hl => ?_)
  obtain ⟨y5, hy5, h⟩ := bb h
  refine L16 o0 fu (0 : Int32) (pI q1.2 o0 13 (0 : Int32)) y5 hy5 _ _ _ hw (hg) t_o0 (lv_sub hl [1, 0] rfl) (fun  S2 he H locs ls hw hG hl => ?_) (fun r he => ?_)
  · subst he
    have t_o0 := hG.t t_o0
    have hg := hg.tr hG
    exact J38  S2 _ _ _ h hw hg t_o0 (lv_sub hl [0] rfl)
  · subst he
    exact Option.some.inj h
def f_X6_readProduct_b8 (tp : Nat → Int32 → PS → Option (Int32 × PS)) (o0 : Nat) (x1 : Int32) (x2 : Int32) (x3 : Int32) (S1 : PS) : Option ((Int32 × Int32 × PS) ⊕ ((Int32 × PS) ⊕ (Int32 × PS))) :=
  (if (1000 : Int32) ≤ x3 then some (.inr (.inr (x2, S1))) else (if x2 = 0 then some (.inr (.inr (x2, S1))) else (if (sI S1 o0 2) = (26 : Int32) then (f_X6_advance o0 S1).bind fun q2 => (tp o0 x1 q2.2).bind fun q3 => (f_X6_addStep o0 (11 : Int32) (0 : Int32) q3.2).bind fun q4 => some (.inl (q3.1, x3 + 1, q4.2)) else some (.inr (.inr (x2, S1))))))
def f_X6_readProduct_51 (tp : Nat → Int32 → PS → Option (Int32 × PS)) (z2 : Int32) (S3 : PS) : Option (Int32 × PS) :=
  if isB z2 = true then some (z2, S3) else none
def f_X6_readProduct (tp : Nat → Int32 → PS → Option (Int32 × PS)) (o0 : Nat) (x1 : Int32) (S : PS) : Option (Int32 × PS) :=
  (tp o0 x1 S).bind fun q1 => (loopN (fun a => f_X6_readProduct_b8 tp o0 x1 a.1 a.2.1 a.2.2) fu (q1.1, (0 : Int32), q1.2)).bind (Sum.elim (fun r => some r) (fun a => f_X6_readProduct_51 tp a.1 a.2))
set_option maxHeartbeats 4000000 in
set_option maxRecDepth 100000 in
theorem k_X6_readProduct (l : Launch) (D : va_G) (cy : Nat → ClassId) (kc : Nat → Nat) (tp : Nat → Int32 → PS → Option (Int32 × PS)) (fr lo : Nat) (hT : ∀ (o0 : Nat) (x1 : Int32) (S : PS) (qq : Int32 × PS), tp o0 x1 S = some qq → tD S o0 6 → KI l D cy kc yX6_readPart cX6_readPart 4 .boolean (rmK fr lo 0 0) [.ref o0, .int x1] S qq.1 qq.2) (o0 : Nat) (x1 : Int32) (S : PS) {qq : Int32 × PS} (h : f_X6_readProduct tp o0 x1 S = some qq) (t_o0 : tD S o0 6) : KI l D cy kc yX6_readProduct cX6_readProduct 4 .boolean (rmK (fr + 2) (lo + 52) 0 0) [.ref o0, .int x1] S qq.1 qq.2 := by
  refine K_body (Qc := QI D cy S qq.2 qq.1) (by decide) (Nat.le_of_ble_eq_true rfl) ?_
  intro p e s m below meth c A ls args E hr hlk hnm hA F hw hl
  have hx := E.1
  have hb := E.2.1
  have hl : lv_has ls 4 [(0, .ref o0), (1, .int x1)] := hl
  have hg : Gr S S := Gr.rf
  replace h : (f_X6_readProduct tp o0 x1 S).bind some = some qq := by rw [h]; rfl
  have L8 : ∀ (o0 : Nat) (x1 : Int32) (n : Nat) (x2 : Int32) (x3 : Int32) (S1 : PS) (o : (Int32 × PS) ⊕ (Int32 × PS)), loopN (fun a => f_X6_readProduct_b8 tp o0 x1 a.1 a.2.1 a.2.2) n (x2, x3, S1) = some o → ∀ (H : Heap) (locs : List Loc) (ls : Array Slot), Wd D cy A s H locs S1 → Gr S S1 → tD S1 o0 6 → lv_has ls 4 [(0, .ref o0), (1, .int x1), (2, .int x2), (3, .int x3)] → (∀ (e0 : Int32) (S2 : PS), o = .inr (e0, S2) → ∀ (H : Heap) (locs : List Loc) (ls : Array Slot), Wd D cy A s H locs S2 → Gr S1 S2 → lv_has ls 4 [(2, .int e0)] → W p l e (rmK (fr + 2) (lo + 52) 0 0) s m args below meth c H locs 0 0 (MQ below (QI D cy S qq.2 qq.1 s.heap.size) args s 0 0 A) (F0 m 51 ls [])) → (∀ q9, o = .inl q9 → q9 = qq) → W p l e (rmK (fr + 2) (lo + 52) 0 0) s m args below meth c H locs 0 0 (MQ below (QI D cy S qq.2 qq.1 s.heap.size) args s 0 0 A) (F0 m 8 ls []) := by
    intro o0 x1 n
    induction n with
    | zero => intro x2 x3 S1 o h; exact absurd h (by simp [loopN])
    | succ n ih =>
      intro x2 x3 S1 o h H locs ls hw hG0 t_o0 hl hx2 hq2
      have hg : Gr S1 S1 := Gr.rf
      replace h : (f_X6_readProduct_b8 tp o0 x1 x2 x3 S1).bind (Sum.elim (loopN (fun a => f_X6_readProduct_b8 tp o0 x1 a.1 a.2.1 a.2.2) n) some) = some o := h
      rw [f_X6_readProduct_b8] at h
      refine lv_iload_n hx hb dX6_readProduct_8 rfl (lv_at hl 3 rfl) ?_
      refine lv_sipush (v := 1000) hx hb dX6_readProduct_9 (by decide) ?_
      refine lv_icmp_ge (tgt := 51) hx hb dX6_readProduct_12 (by decide) (fun c7 => ?_) (fun c7 => ?_)
      · rw [if_pos c7] at h
        obtain rfl := Option.some.inj h
        exact hx2 x2 S1 rfl _ _ _ hw hg (lv_sub hl [2] rfl)
      · rw [if_neg c7] at h
        refine lv_iload_n hx hb dX6_readProduct_15 rfl (lv_at hl 2 rfl) ?_
        refine lv_if_eq (tgt := 51) hx hb dX6_readProduct_16 (by decide) (fun c6 => ?_) (fun c6 => ?_)
        · rw [if_pos c6] at h
          obtain rfl := Option.some.inj h
          exact hx2 x2 S1 rfl _ _ _ hw hg (lv_sub hl [2] rfl)
        · rw [if_neg c6] at h
          refine lv_aload_n hx hb dX6_readProduct_19 rfl (lv_at hl 0 rfl) ?_
          refine g_f E F hw t_o0 cf6 fk_X6_17 dX6_readProduct_20 rfl ?_
          refine lv_bipush (v := 26) hx hb dX6_readProduct_23 (by decide) ?_
          refine lv_icmp_ne (tgt := 51) hx hb dX6_readProduct_25 (by decide) (fun c5 => ?_) (fun c5 => ?_)
          · rw [if_neg c5] at h
            obtain rfl := Option.some.inj h
            exact hx2 x2 S1 rfl _ _ _ hw hg (lv_sub hl [2] rfl)
          · rw [if_pos c5] at h
            refine lv_aload_n hx hb dX6_readProduct_28 rfl (lv_at hl 0 rfl) ?_
            obtain ⟨q2, h_q2, h⟩ := bb h
            refine z_VV E F hw [] (k_X6_advance l D cy kc o0 S1 h_q2 t_o0) t_o0 cf6 mk_X6_advance vk_X6_advance ml_X6_130 ⟨by simp only [rmK]; omega, by simp only [rmK]; omega⟩ rfl hl.1 rfl (Nat.le_of_ble_eq_true rfl) dX6_readProduct_29 ⟨Nat.zero_le _, Nat.zero_le _⟩ (fun H locs hw hG => ?_)
            have t_o0 := hG.t t_o0
            have hg := hg.tr hG
            refine lv_aload_n hx hb dX6_readProduct_32 rfl (lv_at hl 0 rfl) ?_
            refine lv_iload_n hx hb dX6_readProduct_33 rfl (lv_at hl 1 rfl) ?_
            obtain ⟨q3, h_q3, h⟩ := bb h
            refine z_VI E F hw [.int x1] (hT o0 x1 q2.2 _ h_q3 t_o0) t_o0 cf6 mk_X6_readPart vk_X6_readPart ml_X6_212 ⟨by simp only [rmK]; omega, by simp only [rmK]; omega⟩ rfl hl.1 rfl (Nat.le_of_ble_eq_true rfl) dX6_readProduct_34 ⟨Nat.zero_le _, Nat.zero_le _⟩ (fun H locs hw hG => ?_)
            have t_o0 := hG.t t_o0
            have hg := hg.tr hG
            refine lv_istore_n (lv' := [(2, .int q3.1), (0, .ref o0), (1, .int x1), (3, .int x3)]) hx hb dX6_readProduct_37 rfl hl (by decide) rfl (fun ls hl => ?_)
            refine lv_aload_n hx hb dX6_readProduct_38 rfl (lv_at hl 1 rfl) ?_
            refine lv_bipush (v := 11) hx hb dX6_readProduct_39 (by decide) ?_
            refine lv_iconst (v := 0) hx hb dX6_readProduct_41 (by decide) ?_
            obtain ⟨q4, h_q4, h⟩ := bb h
            refine z_VV E F hw [.int (11 : Int32), .int (0 : Int32)] (k_X6_addStep l D cy kc o0 (11 : Int32) (0 : Int32) q3.2 h_q4 t_o0) t_o0 cf6 mk_X6_addStep vk_X6_addStep ml_X6_202 ⟨by simp only [rmK]; omega, by simp only [rmK]; omega⟩ rfl hl.1 rfl (Nat.le_of_ble_eq_true rfl) dX6_readProduct_42 ⟨Nat.zero_le _, Nat.zero_le _⟩ (fun H locs hw hG => ?_)
            have t_o0 := hG.t t_o0
            have hg := hg.tr hG
            refine lv_iinc (v := x3 + 1) (lv' := [(3, .int (x3 + 1)), (2, .int q3.1), (0, .ref o0), (1, .int x1)]) hx hb dX6_readProduct_45 hl (k := 3) rfl rfl (by decide) rfl (fun ls hl => ?_)
            refine lv_goto (tgt := 8) hx hb dX6_readProduct_48 (by decide) ?_
            exact ih q3.1 (x3 + 1) q4.2 _ h _ _ _ hw (hG0.tr hg) t_o0 (lv_sub hl [2, 3, 1, 0] rfl) (fun e0 S2 he H locs ls hw hG hl => hx2 e0 S2 he H locs ls hw (hg.tr hG) hl) hq2
  have J51 : ∀ (z2 : Int32) (S3 : PS) (H : Heap) (locs : List Loc) (ls : Array Slot), (f_X6_readProduct_51 tp z2 S3).bind some = some qq → Wd D cy A s H locs S3 → Gr S S3 → lv_has ls 4 [(2, .int z2)] → W p l e (rmK (fr + 2) (lo + 52) 0 0) s m args below meth c H locs 0 0 (MQ below (QI D cy S qq.2 qq.1 s.heap.size) args s 0 0 A) (F0 m 51 ls []) := by
    intro z2 S3 H locs ls h hw hg  hl
    rw [f_X6_readProduct_51] at h
    refine lv_iload_n hx hb dX6_readProduct_51 rfl (lv_at hl 0 rfl) ?_
    obtain ⟨c9, h⟩ := bg h
    obtain rfl := Option.some.inj h
    exact r_Z E hr hlk F hA hw hg c9 dX6_readProduct_52
  rw [f_X6_readProduct] at h
  refine lv_aload_n hx hb dX6_readProduct_0 rfl (lv_at hl 0 rfl) ?_
  refine lv_iload_n hx hb dX6_readProduct_1 rfl (lv_at hl 1 rfl) ?_
  obtain ⟨q1, h_q1, h⟩ := bb h
  refine z_VI E F hw [.int x1] (hT o0 x1 S _ h_q1 t_o0) t_o0 cf6 mk_X6_readPart vk_X6_readPart ml_X6_212 ⟨by simp only [rmK]; omega, by simp only [rmK]; omega⟩ rfl hl.1 rfl (Nat.le_of_ble_eq_true rfl) dX6_readProduct_2 ⟨Nat.zero_le _, Nat.zero_le _⟩ (fun H locs hw hG => ?_)
  have t_o0 := hG.t t_o0
  have hg := hg.tr hG
  refine lv_istore_n (lv' := [(2, .int q1.1), (0, .ref o0), (1, .int x1)]) hx hb dX6_readProduct_5 rfl hl (by decide) rfl (fun ls hl => ?_)
  refine lv_iconst (v := 0) hx hb dX6_readProduct_6 (by decide) ?_
  refine lv_istore_n (lv' := [(3, .int (0 : Int32)), (2, .int q1.1), (0, .ref o0), (1, .int x1)]) hx hb dX6_readProduct_7 rfl hl (by decide) rfl (fun ls hl => ?_)
  obtain ⟨y8, hy8, h⟩ := bb h
  refine L8 o0 x1 fu q1.1 (0 : Int32) q1.2 y8 hy8 _ _ _ hw (hg) t_o0 (lv_sub hl [2, 3, 1, 0] rfl) (fun e0 S2 he H locs ls hw hG hl => ?_) (fun r he => ?_)
  · subst he
    have hg := hg.tr hG
    exact J51 e0 S2 _ _ _ h hw hg  (lv_sub hl [0] rfl)
  · subst he
    exact Option.some.inj h
def f_X6_readSum_53b8 (tp : Nat → Int32 → PS → Option (Int32 × PS)) (o0 : Nat) (x1 : Int32) (z3 : Int32) (y0 : Int32) (S3 : PS) : Option ((Int32 × Int32 × PS) ⊕ ((Int32 × PS) ⊕ (Int32 × PS))) :=
  (f_X6_advance o0 S3).bind fun q2 => (f_X6_readProduct tp o0 x1 q2.2).bind fun q3 => (f_X6_addStep o0 y0 (0 : Int32) q3.2).bind fun q4 => some (.inl (q3.1, z3 + 1, q4.2))
def f_X6_readSum_37b8 (tp : Nat → Int32 → PS → Option (Int32 × PS)) (o0 : Nat) (x1 : Int32) (z3 : Int32) (S3 : PS) : Option ((Int32 × Int32 × PS) ⊕ ((Int32 × PS) ⊕ (Int32 × PS))) :=
  (if (sI S3 o0 2) = (24 : Int32) then f_X6_readSum_53b8 tp o0 x1 z3 (9 : Int32) S3 else f_X6_readSum_53b8 tp o0 x1 z3 (10 : Int32) S3)
def f_X6_readSum_b8 (tp : Nat → Int32 → PS → Option (Int32 × PS)) (o0 : Nat) (x1 : Int32) (x2 : Int32) (x3 : Int32) (S1 : PS) : Option ((Int32 × Int32 × PS) ⊕ ((Int32 × PS) ⊕ (Int32 × PS))) :=
  (if (1000 : Int32) ≤ x3 then some (.inr (.inr (x2, S1))) else (if x2 = 0 then some (.inr (.inr (x2, S1))) else (if (sI S1 o0 2) = (24 : Int32) then f_X6_readSum_37b8 tp o0 x1 x3 S1 else (if (sI S1 o0 2) = (25 : Int32) then f_X6_readSum_37b8 tp o0 x1 x3 S1 else some (.inr (.inr (x2, S1)))))))
def f_X6_readSum_78 (tp : Nat → Int32 → PS → Option (Int32 × PS)) (z2 : Int32) (S3 : PS) : Option (Int32 × PS) :=
  if isB z2 = true then some (z2, S3) else none
def f_X6_readSum (tp : Nat → Int32 → PS → Option (Int32 × PS)) (o0 : Nat) (x1 : Int32) (S : PS) : Option (Int32 × PS) :=
  (f_X6_readProduct tp o0 x1 S).bind fun q1 => (loopN (fun a => f_X6_readSum_b8 tp o0 x1 a.1 a.2.1 a.2.2) fu (q1.1, (0 : Int32), q1.2)).bind (Sum.elim (fun r => some r) (fun a => f_X6_readSum_78 tp a.1 a.2))
set_option maxHeartbeats 4000000 in
set_option maxRecDepth 100000 in
theorem k_X6_readSum (l : Launch) (D : va_G) (cy : Nat → ClassId) (kc : Nat → Nat) (tp : Nat → Int32 → PS → Option (Int32 × PS)) (fr lo : Nat) (hT : ∀ (o0 : Nat) (x1 : Int32) (S : PS) (qq : Int32 × PS), tp o0 x1 S = some qq → tD S o0 6 → KI l D cy kc yX6_readPart cX6_readPart 4 .boolean (rmK fr lo 0 0) [.ref o0, .int x1] S qq.1 qq.2) (o0 : Nat) (x1 : Int32) (S : PS) {qq : Int32 × PS} (h : f_X6_readSum tp o0 x1 S = some qq) (t_o0 : tD S o0 6) : KI l D cy kc yX6_readSum cX6_readSum 5 .boolean (rmK (fr + 3) (lo + 91) 0 0) [.ref o0, .int x1] S qq.1 qq.2 := by
  refine K_body (Qc := QI D cy S qq.2 qq.1) (by decide) (Nat.le_of_ble_eq_true rfl) ?_
  intro p e s m below meth c A ls args E hr hlk hnm hA F hw hl
  have hx := E.1
  have hb := E.2.1
  have hl : lv_has ls 5 [(0, .ref o0), (1, .int x1)] := hl
  have hg : Gr S S := Gr.rf
  replace h : (f_X6_readSum tp o0 x1 S).bind some = some qq := by rw [h]; rfl
  have L8 : ∀ (o0 : Nat) (x1 : Int32) (n : Nat) (x2 : Int32) (x3 : Int32) (S1 : PS) (o : (Int32 × PS) ⊕ (Int32 × PS)), loopN (fun a => f_X6_readSum_b8 tp o0 x1 a.1 a.2.1 a.2.2) n (x2, x3, S1) = some o → ∀ (H : Heap) (locs : List Loc) (ls : Array Slot), Wd D cy A s H locs S1 → Gr S S1 → tD S1 o0 6 → lv_has ls 5 [(0, .ref o0), (1, .int x1), (2, .int x2), (3, .int x3)] → (∀ (e0 : Int32) (S2 : PS), o = .inr (e0, S2) → ∀ (H : Heap) (locs : List Loc) (ls : Array Slot), Wd D cy A s H locs S2 → Gr S1 S2 → lv_has ls 5 [(2, .int e0)] → W p l e (rmK (fr + 3) (lo + 91) 0 0) s m args below meth c H locs 0 0 (MQ below (QI D cy S qq.2 qq.1 s.heap.size) args s 0 0 A) (F0 m 78 ls [])) → (∀ q9, o = .inl q9 → q9 = qq) → W p l e (rmK (fr + 3) (lo + 91) 0 0) s m args below meth c H locs 0 0 (MQ below (QI D cy S qq.2 qq.1 s.heap.size) args s 0 0 A) (F0 m 8 ls []) := by
    intro o0 x1 n
    induction n with
    | zero => intro x2 x3 S1 o h; exact absurd h (by simp [loopN])
    | succ n ih =>
      intro x2 x3 S1 o h H locs ls hw hG0 t_o0 hl hx2 hq2
      have hg : Gr S1 S1 := Gr.rf
      replace h : (f_X6_readSum_b8 tp o0 x1 x2 x3 S1).bind (Sum.elim (loopN (fun a => f_X6_readSum_b8 tp o0 x1 a.1 a.2.1 a.2.2) n) some) = some o := h
      have J53 : ∀ (z3 : Int32) (y0 : Int32) (S3 : PS) (H : Heap) (locs : List Loc) (ls : Array Slot), (f_X6_readSum_53b8 tp o0 x1 z3 y0 S3).bind (Sum.elim (loopN (fun a => f_X6_readSum_b8 tp o0 x1 a.1 a.2.1 a.2.2) n) some) = some o → Wd D cy A s H locs S3 → Gr S1 S3 → tD S3 o0 6 → lv_has ls 5 [(0, .ref o0), (1, .int x1), (3, .int z3)] → W p l e (rmK (fr + 3) (lo + 91) 0 0) s m args below meth c H locs 0 0 (MQ below (QI D cy S qq.2 qq.1 s.heap.size) args s 0 0 A) (F0 m 53 ls [.int y0]) := by
        intro z3 y0 S3 H locs ls h hw hg t_o0 hl
        rw [f_X6_readSum_53b8] at h
        refine lv_istore (lv' := [(4, .int y0), (0, .ref o0), (1, .int x1), (3, .int z3)]) hx hb dX6_readSum_53 hl (by decide) rfl (fun ls hl => ?_)
        refine lv_aload_n hx hb dX6_readSum_55 rfl (lv_at hl 1 rfl) ?_
        obtain ⟨q2, h_q2, h⟩ := bb h
        refine z_VV E F hw [] (k_X6_advance l D cy kc o0 S3 h_q2 t_o0) t_o0 cf6 mk_X6_advance vk_X6_advance ml_X6_130 ⟨by simp only [rmK]; omega, by simp only [rmK]; omega⟩ rfl hl.1 rfl (Nat.le_of_ble_eq_true rfl) dX6_readSum_56 ⟨Nat.zero_le _, Nat.zero_le _⟩ (fun H locs hw hG => ?_)
        have t_o0 := hG.t t_o0
        have hg := hg.tr hG
        refine lv_aload_n hx hb dX6_readSum_59 rfl (lv_at hl 1 rfl) ?_
        refine lv_iload_n hx hb dX6_readSum_60 rfl (lv_at hl 2 rfl) ?_
        obtain ⟨q3, h_q3, h⟩ := bb h
        refine z_VI E F hw [.int x1] (k_X6_readProduct l D cy kc tp fr lo hT o0 x1 q2.2 h_q3 t_o0) t_o0 cf6 mk_X6_readProduct vk_X6_readProduct ml_X6_209 ⟨by simp only [rmK]; omega, by simp only [rmK]; omega⟩ rfl hl.1 rfl (Nat.le_of_ble_eq_true rfl) dX6_readSum_61 ⟨Nat.zero_le _, Nat.zero_le _⟩ (fun H locs hw hG => ?_)
        have t_o0 := hG.t t_o0
        have hg := hg.tr hG
        refine lv_istore_n (lv' := [(2, .int q3.1), (4, .int y0), (0, .ref o0), (1, .int x1), (3, .int z3)]) hx hb dX6_readSum_64 rfl hl (by decide) rfl (fun ls hl => ?_)
        refine lv_aload_n hx hb dX6_readSum_65 rfl (lv_at hl 2 rfl) ?_
        refine lv_iload hx hb dX6_readSum_66 (lv_at hl 1 rfl) ?_
        refine lv_iconst (v := 0) hx hb dX6_readSum_68 (by decide) ?_
        obtain ⟨q4, h_q4, h⟩ := bb h
        refine z_VV E F hw [.int y0, .int (0 : Int32)] (k_X6_addStep l D cy kc o0 y0 (0 : Int32) q3.2 h_q4 t_o0) t_o0 cf6 mk_X6_addStep vk_X6_addStep ml_X6_202 ⟨by simp only [rmK]; omega, by simp only [rmK]; omega⟩ rfl hl.1 rfl (Nat.le_of_ble_eq_true rfl) dX6_readSum_69 ⟨Nat.zero_le _, Nat.zero_le _⟩ (fun H locs hw hG => ?_)
        have t_o0 := hG.t t_o0
        have hg := hg.tr hG
        refine lv_iinc (v := z3 + 1) (lv' := [(3, .int (z3 + 1)), (2, .int q3.1), (4, .int y0), (0, .ref o0), (1, .int x1)]) hx hb dX6_readSum_72 hl (k := 4) rfl rfl (by decide) rfl (fun ls hl => ?_)
        refine lv_goto (tgt := 8) hx hb dX6_readSum_75 (by decide) ?_
        exact ih q3.1 (z3 + 1) q4.2 _ h _ _ _ hw (hG0.tr hg) t_o0 (lv_sub hl [3, 4, 1, 0] rfl) (fun e0 S2 he H locs ls hw hG hl => hx2 e0 S2 he H locs ls hw (hg.tr hG) hl) hq2
      have J37 : ∀ (z3 : Int32) (S3 : PS) (H : Heap) (locs : List Loc) (ls : Array Slot), (f_X6_readSum_37b8 tp o0 x1 z3 S3).bind (Sum.elim (loopN (fun a => f_X6_readSum_b8 tp o0 x1 a.1 a.2.1 a.2.2) n) some) = some o → Wd D cy A s H locs S3 → Gr S1 S3 → tD S3 o0 6 → lv_has ls 5 [(0, .ref o0), (1, .int x1), (3, .int z3)] → W p l e (rmK (fr + 3) (lo + 91) 0 0) s m args below meth c H locs 0 0 (MQ below (QI D cy S qq.2 qq.1 s.heap.size) args s 0 0 A) (F0 m 37 ls []) := by
        intro z3 S3 H locs ls h hw hg t_o0 hl
        rw [f_X6_readSum_37b8] at h
        refine lv_aload_n hx hb dX6_readSum_37 rfl (lv_at hl 0 rfl) ?_
        refine g_f E F hw t_o0 cf6 fk_X6_17 dX6_readSum_38 rfl ?_
        refine lv_bipush (v := 24) hx hb dX6_readSum_41 (by decide) ?_
        refine lv_icmp_ne (tgt := 51) hx hb dX6_readSum_43 (by decide) (fun c5 => ?_) (fun c5 => ?_)
        · rw [if_neg c5] at h
          refine lv_bipush (v := 10) hx hb dX6_readSum_51 (by decide) ?_
          exact J53 z3 (10 : Int32) S3 _ _ _ h hw hg t_o0 (lv_sub hl [0, 1, 2] rfl)
        · rw [if_pos c5] at h
          refine lv_bipush (v := 9) hx hb dX6_readSum_46 (by decide) ?_
          refine lv_goto (tgt := 53) hx hb dX6_readSum_48 (by decide) ?_
          exact J53 z3 (9 : Int32) S3 _ _ _ h hw hg t_o0 (lv_sub hl [0, 1, 2] rfl)
      rw [f_X6_readSum_b8] at h
      refine lv_iload_n hx hb dX6_readSum_8 rfl (lv_at hl 3 rfl) ?_
      refine lv_sipush (v := 1000) hx hb dX6_readSum_9 (by decide) ?_
      refine lv_icmp_ge (tgt := 78) hx hb dX6_readSum_12 (by decide) (fun c9 => ?_) (fun c9 => ?_)
      · rw [if_pos c9] at h
        obtain rfl := Option.some.inj h
        exact hx2 x2 S1 rfl _ _ _ hw hg (lv_sub hl [2] rfl)
      · rw [if_neg c9] at h
        refine lv_iload_n hx hb dX6_readSum_15 rfl (lv_at hl 2 rfl) ?_
        refine lv_if_eq (tgt := 78) hx hb dX6_readSum_16 (by decide) (fun c8 => ?_) (fun c8 => ?_)
        · rw [if_pos c8] at h
          obtain rfl := Option.some.inj h
          exact hx2 x2 S1 rfl _ _ _ hw hg (lv_sub hl [2] rfl)
        · rw [if_neg c8] at h
          refine lv_aload_n hx hb dX6_readSum_19 rfl (lv_at hl 0 rfl) ?_
          refine g_f E F hw t_o0 cf6 fk_X6_17 dX6_readSum_20 rfl ?_
          refine lv_bipush (v := 24) hx hb dX6_readSum_23 (by decide) ?_
          refine lv_icmp_eq (tgt := 37) hx hb dX6_readSum_25 (by decide) (fun c7 => ?_) (fun c7 => ?_)
          · rw [if_pos c7] at h
            exact J37 x3 S1 _ _ _ h hw hg t_o0 (lv_sub hl [0, 1, 3] rfl)
          · rw [if_neg c7] at h
            refine lv_aload_n hx hb dX6_readSum_28 rfl (lv_at hl 0 rfl) ?_
            refine g_f E F hw t_o0 cf6 fk_X6_17 dX6_readSum_29 rfl ?_
            refine lv_bipush (v := 25) hx hb dX6_readSum_32 (by decide) ?_
            refine lv_icmp_ne (tgt := 78) hx hb dX6_readSum_34 (by decide) (fun c6 => ?_) (fun c6 => ?_)
            · rw [if_neg c6] at h
              obtain rfl := Option.some.inj h
              exact hx2 x2 S1 rfl _ _ _ hw hg (lv_sub hl [2] rfl)
            · rw [if_pos c6] at h
              exact J37 x3 S1 _ _ _ h hw hg t_o0 (lv_sub hl [0, 1, 3] rfl)
  have J78 : ∀ (z2 : Int32) (S3 : PS) (H : Heap) (locs : List Loc) (ls : Array Slot), (f_X6_readSum_78 tp z2 S3).bind some = some qq → Wd D cy A s H locs S3 → Gr S S3 → lv_has ls 5 [(2, .int z2)] → W p l e (rmK (fr + 3) (lo + 91) 0 0) s m args below meth c H locs 0 0 (MQ below (QI D cy S qq.2 qq.1 s.heap.size) args s 0 0 A) (F0 m 78 ls []) := by
    intro z2 S3 H locs ls h hw hg  hl
    rw [f_X6_readSum_78] at h
    refine lv_iload_n hx hb dX6_readSum_78 rfl (lv_at hl 0 rfl) ?_
    obtain ⟨c11, h⟩ := bg h
    obtain rfl := Option.some.inj h
    exact r_Z E hr hlk F hA hw hg c11 dX6_readSum_79
  rw [f_X6_readSum] at h
  refine lv_aload_n hx hb dX6_readSum_0 rfl (lv_at hl 0 rfl) ?_
  refine lv_iload_n hx hb dX6_readSum_1 rfl (lv_at hl 1 rfl) ?_
  obtain ⟨q1, h_q1, h⟩ := bb h
  refine z_VI E F hw [.int x1] (k_X6_readProduct l D cy kc tp fr lo hT o0 x1 S h_q1 t_o0) t_o0 cf6 mk_X6_readProduct vk_X6_readProduct ml_X6_209 ⟨by simp only [rmK]; omega, by simp only [rmK]; omega⟩ rfl hl.1 rfl (Nat.le_of_ble_eq_true rfl) dX6_readSum_2 ⟨Nat.zero_le _, Nat.zero_le _⟩ (fun H locs hw hG => ?_)
  have t_o0 := hG.t t_o0
  have hg := hg.tr hG
  refine lv_istore_n (lv' := [(2, .int q1.1), (0, .ref o0), (1, .int x1)]) hx hb dX6_readSum_5 rfl hl (by decide) rfl (fun ls hl => ?_)
  refine lv_iconst (v := 0) hx hb dX6_readSum_6 (by decide) ?_
  refine lv_istore_n (lv' := [(3, .int (0 : Int32)), (2, .int q1.1), (0, .ref o0), (1, .int x1)]) hx hb dX6_readSum_7 rfl hl (by decide) rfl (fun ls hl => ?_)
  obtain ⟨y10, hy10, h⟩ := bb h
  refine L8 o0 x1 fu q1.1 (0 : Int32) q1.2 y10 hy10 _ _ _ hw (hg) t_o0 (lv_sub hl [2, 3, 1, 0] rfl) (fun e0 S2 he H locs ls hw hG hl => ?_) (fun r he => ?_)
  · subst he
    have hg := hg.tr hG
    exact J78 e0 S2 _ _ _ h hw hg  (lv_sub hl [0] rfl)
  · subst he
    exact Option.some.inj h
def f_X6_readTest_46 (tp : Nat → Int32 → PS → Option (Int32 × PS)) (o0 : Nat) (x1 : Int32) (y0 : Int32) (S3 : PS) : Option (Int32 × PS) :=
  (f_X6_advance o0 S3).bind fun q2 => (f_X6_readSum tp o0 x1 q2.2).bind fun q3 => (f_X6_addStep o0 y0 (0 : Int32) q3.2).bind fun q4 => if isB q3.1 = true then some (q3.1, q4.2) else none
def f_X6_readTest_30 (tp : Nat → Int32 → PS → Option (Int32 × PS)) (o0 : Nat) (x1 : Int32) (S3 : PS) : Option (Int32 × PS) :=
  (if (sI S3 o0 2) = (22 : Int32) then f_X6_readTest_46 tp o0 x1 (7 : Int32) S3 else f_X6_readTest_46 tp o0 x1 (8 : Int32) S3)
def f_X6_readTest (tp : Nat → Int32 → PS → Option (Int32 × PS)) (o0 : Nat) (x1 : Int32) (S : PS) : Option (Int32 × PS) :=
  (f_X6_readSum tp o0 x1 S).bind fun q1 => (if q1.1 = 0 then some ((0 : Int32), q1.2) else (if (sI q1.2 o0 2) = (22 : Int32) then f_X6_readTest_30 tp o0 x1 q1.2 else (if (sI q1.2 o0 2) = (23 : Int32) then f_X6_readTest_30 tp o0 x1 q1.2 else some ((1 : Int32), q1.2))))
set_option maxHeartbeats 4000000 in
set_option maxRecDepth 100000 in
theorem k_X6_readTest (l : Launch) (D : va_G) (cy : Nat → ClassId) (kc : Nat → Nat) (tp : Nat → Int32 → PS → Option (Int32 × PS)) (fr lo : Nat) (hT : ∀ (o0 : Nat) (x1 : Int32) (S : PS) (qq : Int32 × PS), tp o0 x1 S = some qq → tD S o0 6 → KI l D cy kc yX6_readPart cX6_readPart 4 .boolean (rmK fr lo 0 0) [.ref o0, .int x1] S qq.1 qq.2) (o0 : Nat) (x1 : Int32) (S : PS) {qq : Int32 × PS} (h : f_X6_readTest tp o0 x1 S = some qq) (t_o0 : tD S o0 6) : KI l D cy kc yX6_readTest cX6_readTest 4 .boolean (rmK (fr + 4) (lo + 131) 0 0) [.ref o0, .int x1] S qq.1 qq.2 := by
  refine K_body (Qc := QI D cy S qq.2 qq.1) (by decide) (Nat.le_of_ble_eq_true rfl) ?_
  intro p e s m below meth c A ls args E hr hlk hnm hA F hw hl
  have hx := E.1
  have hb := E.2.1
  have hl : lv_has ls 4 [(0, .ref o0), (1, .int x1)] := hl
  have hg : Gr S S := Gr.rf
  replace h : (f_X6_readTest tp o0 x1 S).bind some = some qq := by rw [h]; rfl
  have J46 : ∀ (y0 : Int32) (S3 : PS) (H : Heap) (locs : List Loc) (ls : Array Slot), (f_X6_readTest_46 tp o0 x1 y0 S3).bind some = some qq → Wd D cy A s H locs S3 → Gr S S3 → tD S3 o0 6 → lv_has ls 4 [(0, .ref o0), (1, .int x1)] → W p l e (rmK (fr + 4) (lo + 131) 0 0) s m args below meth c H locs 0 0 (MQ below (QI D cy S qq.2 qq.1 s.heap.size) args s 0 0 A) (F0 m 46 ls [.int y0]) := by
    intro y0 S3 H locs ls h hw hg t_o0 hl
    rw [f_X6_readTest_46] at h
    refine lv_istore_n (lv' := [(2, .int y0), (0, .ref o0), (1, .int x1)]) hx hb dX6_readTest_46 rfl hl (by decide) rfl (fun ls hl => ?_)
    refine lv_aload_n hx hb dX6_readTest_47 rfl (lv_at hl 1 rfl) ?_
    obtain ⟨q2, h_q2, h⟩ := bb h
    refine z_VV E F hw [] (k_X6_advance l D cy kc o0 S3 h_q2 t_o0) t_o0 cf6 mk_X6_advance vk_X6_advance ml_X6_130 ⟨by simp only [rmK]; omega, by simp only [rmK]; omega⟩ rfl hl.1 rfl (Nat.le_of_ble_eq_true rfl) dX6_readTest_48 ⟨Nat.zero_le _, Nat.zero_le _⟩ (fun H locs hw hG => ?_)
    have t_o0 := hG.t t_o0
    have hg := hg.tr hG
    refine lv_aload_n hx hb dX6_readTest_51 rfl (lv_at hl 1 rfl) ?_
    refine lv_iload_n hx hb dX6_readTest_52 rfl (lv_at hl 2 rfl) ?_
    obtain ⟨q3, h_q3, h⟩ := bb h
    refine z_VI E F hw [.int x1] (k_X6_readSum l D cy kc tp fr lo hT o0 x1 q2.2 h_q3 t_o0) t_o0 cf6 mk_X6_readSum vk_X6_readSum ml_X6_206 ⟨by simp only [rmK]; omega, by simp only [rmK]; omega⟩ rfl hl.1 rfl (Nat.le_of_ble_eq_true rfl) dX6_readTest_53 ⟨Nat.zero_le _, Nat.zero_le _⟩ (fun H locs hw hG => ?_)
    have t_o0 := hG.t t_o0
    have hg := hg.tr hG
    refine lv_istore_n (lv' := [(3, .int q3.1), (2, .int y0), (0, .ref o0), (1, .int x1)]) hx hb dX6_readTest_56 rfl hl (by decide) rfl (fun ls hl => ?_)
    refine lv_aload_n hx hb dX6_readTest_57 rfl (lv_at hl 2 rfl) ?_
    refine lv_iload_n hx hb dX6_readTest_58 rfl (lv_at hl 1 rfl) ?_
    refine lv_iconst (v := 0) hx hb dX6_readTest_59 (by decide) ?_
    obtain ⟨q4, h_q4, h⟩ := bb h
    refine z_VV E F hw [.int y0, .int (0 : Int32)] (k_X6_addStep l D cy kc o0 y0 (0 : Int32) q3.2 h_q4 t_o0) t_o0 cf6 mk_X6_addStep vk_X6_addStep ml_X6_202 ⟨by simp only [rmK]; omega, by simp only [rmK]; omega⟩ rfl hl.1 rfl (Nat.le_of_ble_eq_true rfl) dX6_readTest_60 ⟨Nat.zero_le _, Nat.zero_le _⟩ (fun H locs hw hG => ?_)
    have t_o0 := hG.t t_o0
    have hg := hg.tr hG
    refine lv_iload_n hx hb dX6_readTest_63 rfl (lv_at hl 0 rfl) ?_
    obtain ⟨c5, h⟩ := bg h
    obtain rfl := Option.some.inj h
    exact r_Z E hr hlk F hA hw hg c5 dX6_readTest_64
  have J30 : ∀  (S3 : PS) (H : Heap) (locs : List Loc) (ls : Array Slot), (f_X6_readTest_30 tp o0 x1 S3).bind some = some qq → Wd D cy A s H locs S3 → Gr S S3 → tD S3 o0 6 → lv_has ls 4 [(0, .ref o0), (1, .int x1)] → W p l e (rmK (fr + 4) (lo + 131) 0 0) s m args below meth c H locs 0 0 (MQ below (QI D cy S qq.2 qq.1 s.heap.size) args s 0 0 A) (F0 m 30 ls []) := by
    intro  S3 H locs ls h hw hg t_o0 hl
    rw [f_X6_readTest_30] at h
    refine lv_aload_n hx hb dX6_readTest_30 rfl (lv_at hl 0 rfl) ?_
    refine g_f E F hw t_o0 cf6 fk_X6_17 dX6_readTest_31 rfl ?_
    refine lv_bipush (v := 22) hx hb dX6_readTest_34 (by decide) ?_
    refine lv_icmp_ne (tgt := 44) hx hb dX6_readTest_36 (by decide) (fun c6 => ?_) (fun c6 => ?_)
    · rw [if_neg c6] at h
      refine lv_bipush (v := 8) hx hb dX6_readTest_44 (by decide) ?_
      exact J46 (8 : Int32) S3 _ _ _ h hw hg t_o0 (lv_sub hl [0, 1] rfl)
    · rw [if_pos c6] at h
      refine lv_bipush (v := 7) hx hb dX6_readTest_39 (by decide) ?_
      refine lv_goto (tgt := 46) hx hb dX6_readTest_41 (by decide) ?_
      exact J46 (7 : Int32) S3 _ _ _ h hw hg t_o0 (lv_sub hl [0, 1] rfl)
  rw [f_X6_readTest] at h
  refine lv_aload_n hx hb dX6_readTest_0 rfl (lv_at hl 0 rfl) ?_
  refine lv_iload_n hx hb dX6_readTest_1 rfl (lv_at hl 1 rfl) ?_
  obtain ⟨q1, h_q1, h⟩ := bb h
  refine z_VI E F hw [.int x1] (k_X6_readSum l D cy kc tp fr lo hT o0 x1 S h_q1 t_o0) t_o0 cf6 mk_X6_readSum vk_X6_readSum ml_X6_206 ⟨by simp only [rmK]; omega, by simp only [rmK]; omega⟩ rfl hl.1 rfl (Nat.le_of_ble_eq_true rfl) dX6_readTest_2 ⟨Nat.zero_le _, Nat.zero_le _⟩ (fun H locs hw hG => ?_)
  have t_o0 := hG.t t_o0
  have hg := hg.tr hG
  refine lv_if_ne (tgt := 10) hx hb dX6_readTest_5 (by decide) (fun c9 => ?_) (fun c9 => ?_)
  · rw [if_neg c9] at h
    refine lv_aload_n hx hb dX6_readTest_10 rfl (lv_at hl 0 rfl) ?_
    refine g_f E F hw t_o0 cf6 fk_X6_17 dX6_readTest_11 rfl ?_
    refine lv_bipush (v := 22) hx hb dX6_readTest_14 (by decide) ?_
    refine lv_icmp_eq (tgt := 30) hx hb dX6_readTest_16 (by decide) (fun c8 => ?_) (fun c8 => ?_)
    · rw [if_pos c8] at h
      exact J30  q1.2 _ _ _ h hw hg t_o0 (lv_sub hl [0, 1] rfl)
    · rw [if_neg c8] at h
      refine lv_aload_n hx hb dX6_readTest_19 rfl (lv_at hl 0 rfl) ?_
      refine g_f E F hw t_o0 cf6 fk_X6_17 dX6_readTest_20 rfl ?_
      refine lv_bipush (v := 23) hx hb dX6_readTest_23 (by decide) ?_
      refine lv_icmp_eq (tgt := 30) hx hb dX6_readTest_25 (by decide) (fun c7 => ?_) (fun c7 => ?_)
      · rw [if_pos c7] at h
        exact J30  q1.2 _ _ _ h hw hg t_o0 (lv_sub hl [0, 1] rfl)
      · rw [if_neg c7] at h
        refine lv_iconst (v := 1) hx hb dX6_readTest_28 (by decide) ?_
        obtain rfl := Option.some.inj h
        exact r_Z E hr hlk F hA hw hg rfl dX6_readTest_29
  · rw [if_pos c9] at h
    refine lv_iconst (v := 0) hx hb dX6_readTest_8 (by decide) ?_
    obtain rfl := Option.some.inj h
    exact r_Z E hr hlk F hA hw hg rfl dX6_readTest_9
def f_X6_readTests_52b8 (tp : Nat → Int32 → PS → Option (Int32 × PS)) (o0 : Nat) (x1 : Int32) (z3 : Int32) (y0 : Int32) (S3 : PS) : Option ((Int32 × Int32 × PS) ⊕ ((Int32 × PS) ⊕ (Int32 × PS))) :=
  (f_X6_advance o0 S3).bind fun q2 => (f_X6_readTest tp o0 x1 q2.2).bind fun q3 => (f_X6_addStep o0 y0 (0 : Int32) q3.2).bind fun q4 => some (.inl (q3.1, z3 + 1, q4.2))
def f_X6_readTests_37b8 (tp : Nat → Int32 → PS → Option (Int32 × PS)) (o0 : Nat) (x1 : Int32) (z3 : Int32) (S3 : PS) : Option ((Int32 × Int32 × PS) ⊕ ((Int32 × PS) ⊕ (Int32 × PS))) :=
  (if (sI S3 o0 2) = (15 : Int32) then f_X6_readTests_52b8 tp o0 x1 z3 (5 : Int32) S3 else f_X6_readTests_52b8 tp o0 x1 z3 (6 : Int32) S3)
def f_X6_readTests_b8 (tp : Nat → Int32 → PS → Option (Int32 × PS)) (o0 : Nat) (x1 : Int32) (x2 : Int32) (x3 : Int32) (S1 : PS) : Option ((Int32 × Int32 × PS) ⊕ ((Int32 × PS) ⊕ (Int32 × PS))) :=
  (if (1000 : Int32) ≤ x3 then some (.inr (.inr (x2, S1))) else (if x2 = 0 then some (.inr (.inr (x2, S1))) else (if (sI S1 o0 2) = (15 : Int32) then f_X6_readTests_37b8 tp o0 x1 x3 S1 else (if (sI S1 o0 2) = (16 : Int32) then f_X6_readTests_37b8 tp o0 x1 x3 S1 else some (.inr (.inr (x2, S1)))))))
def f_X6_readTests_77 (tp : Nat → Int32 → PS → Option (Int32 × PS)) (z2 : Int32) (S3 : PS) : Option (Int32 × PS) :=
  if isB z2 = true then some (z2, S3) else none
def f_X6_readTests (tp : Nat → Int32 → PS → Option (Int32 × PS)) (o0 : Nat) (x1 : Int32) (S : PS) : Option (Int32 × PS) :=
  (f_X6_readTest tp o0 x1 S).bind fun q1 => (loopN (fun a => f_X6_readTests_b8 tp o0 x1 a.1 a.2.1 a.2.2) fu (q1.1, (0 : Int32), q1.2)).bind (Sum.elim (fun r => some r) (fun a => f_X6_readTests_77 tp a.1 a.2))
set_option maxHeartbeats 4000000 in
set_option maxRecDepth 100000 in
theorem k_X6_readTests (l : Launch) (D : va_G) (cy : Nat → ClassId) (kc : Nat → Nat) (tp : Nat → Int32 → PS → Option (Int32 × PS)) (fr lo : Nat) (hT : ∀ (o0 : Nat) (x1 : Int32) (S : PS) (qq : Int32 × PS), tp o0 x1 S = some qq → tD S o0 6 → KI l D cy kc yX6_readPart cX6_readPart 4 .boolean (rmK fr lo 0 0) [.ref o0, .int x1] S qq.1 qq.2) (o0 : Nat) (x1 : Int32) (S : PS) {qq : Int32 × PS} (h : f_X6_readTests tp o0 x1 S = some qq) (t_o0 : tD S o0 6) : KI l D cy kc yX6_readTests cX6_readTests 5 .boolean (rmK (fr + 5) (lo + 170) 0 0) [.ref o0, .int x1] S qq.1 qq.2 := by
  refine K_body (Qc := QI D cy S qq.2 qq.1) (by decide) (Nat.le_of_ble_eq_true rfl) ?_
  intro p e s m below meth c A ls args E hr hlk hnm hA F hw hl
  have hx := E.1
  have hb := E.2.1
  have hl : lv_has ls 5 [(0, .ref o0), (1, .int x1)] := hl
  have hg : Gr S S := Gr.rf
  replace h : (f_X6_readTests tp o0 x1 S).bind some = some qq := by rw [h]; rfl
  have L8 : ∀ (o0 : Nat) (x1 : Int32) (n : Nat) (x2 : Int32) (x3 : Int32) (S1 : PS) (o : (Int32 × PS) ⊕ (Int32 × PS)), loopN (fun a => f_X6_readTests_b8 tp o0 x1 a.1 a.2.1 a.2.2) n (x2, x3, S1) = some o → ∀ (H : Heap) (locs : List Loc) (ls : Array Slot), Wd D cy A s H locs S1 → Gr S S1 → tD S1 o0 6 → lv_has ls 5 [(0, .ref o0), (1, .int x1), (2, .int x2), (3, .int x3)] → (∀ (e0 : Int32) (S2 : PS), o = .inr (e0, S2) → ∀ (H : Heap) (locs : List Loc) (ls : Array Slot), Wd D cy A s H locs S2 → Gr S1 S2 → lv_has ls 5 [(2, .int e0)] → W p l e (rmK (fr + 5) (lo + 170) 0 0) s m args below meth c H locs 0 0 (MQ below (QI D cy S qq.2 qq.1 s.heap.size) args s 0 0 A) (F0 m 77 ls [])) → (∀ q9, o = .inl q9 → q9 = qq) → W p l e (rmK (fr + 5) (lo + 170) 0 0) s m args below meth c H locs 0 0 (MQ below (QI D cy S qq.2 qq.1 s.heap.size) args s 0 0 A) (F0 m 8 ls []) := by
    intro o0 x1 n
    induction n with
    | zero => intro x2 x3 S1 o h; exact absurd h (by simp [loopN])
    | succ n ih =>
      intro x2 x3 S1 o h H locs ls hw hG0 t_o0 hl hx2 hq2
      have hg : Gr S1 S1 := Gr.rf
      replace h : (f_X6_readTests_b8 tp o0 x1 x2 x3 S1).bind (Sum.elim (loopN (fun a => f_X6_readTests_b8 tp o0 x1 a.1 a.2.1 a.2.2) n) some) = some o := h
      have J52 : ∀ (z3 : Int32) (y0 : Int32) (S3 : PS) (H : Heap) (locs : List Loc) (ls : Array Slot), (f_X6_readTests_52b8 tp o0 x1 z3 y0 S3).bind (Sum.elim (loopN (fun a => f_X6_readTests_b8 tp o0 x1 a.1 a.2.1 a.2.2) n) some) = some o → Wd D cy A s H locs S3 → Gr S1 S3 → tD S3 o0 6 → lv_has ls 5 [(0, .ref o0), (1, .int x1), (3, .int z3)] → W p l e (rmK (fr + 5) (lo + 170) 0 0) s m args below meth c H locs 0 0 (MQ below (QI D cy S qq.2 qq.1 s.heap.size) args s 0 0 A) (F0 m 52 ls [.int y0]) := by
        intro z3 y0 S3 H locs ls h hw hg t_o0 hl
        rw [f_X6_readTests_52b8] at h
        refine lv_istore (lv' := [(4, .int y0), (0, .ref o0), (1, .int x1), (3, .int z3)]) hx hb dX6_readTests_52 hl (by decide) rfl (fun ls hl => ?_)
        refine lv_aload_n hx hb dX6_readTests_54 rfl (lv_at hl 1 rfl) ?_
        obtain ⟨q2, h_q2, h⟩ := bb h
        refine z_VV E F hw [] (k_X6_advance l D cy kc o0 S3 h_q2 t_o0) t_o0 cf6 mk_X6_advance vk_X6_advance ml_X6_130 ⟨by simp only [rmK]; omega, by simp only [rmK]; omega⟩ rfl hl.1 rfl (Nat.le_of_ble_eq_true rfl) dX6_readTests_55 ⟨Nat.zero_le _, Nat.zero_le _⟩ (fun H locs hw hG => ?_)
        have t_o0 := hG.t t_o0
        have hg := hg.tr hG
        refine lv_aload_n hx hb dX6_readTests_58 rfl (lv_at hl 1 rfl) ?_
        refine lv_iload_n hx hb dX6_readTests_59 rfl (lv_at hl 2 rfl) ?_
        obtain ⟨q3, h_q3, h⟩ := bb h
        refine z_VI E F hw [.int x1] (k_X6_readTest l D cy kc tp fr lo hT o0 x1 q2.2 h_q3 t_o0) t_o0 cf6 mk_X6_readTest vk_X6_readTest ml_X6_199 ⟨by simp only [rmK]; omega, by simp only [rmK]; omega⟩ rfl hl.1 rfl (Nat.le_of_ble_eq_true rfl) dX6_readTests_60 ⟨Nat.zero_le _, Nat.zero_le _⟩ (fun H locs hw hG => ?_)
        have t_o0 := hG.t t_o0
        have hg := hg.tr hG
        refine lv_istore_n (lv' := [(2, .int q3.1), (4, .int y0), (0, .ref o0), (1, .int x1), (3, .int z3)]) hx hb dX6_readTests_63 rfl hl (by decide) rfl (fun ls hl => ?_)
        refine lv_aload_n hx hb dX6_readTests_64 rfl (lv_at hl 2 rfl) ?_
        refine lv_iload hx hb dX6_readTests_65 (lv_at hl 1 rfl) ?_
        refine lv_iconst (v := 0) hx hb dX6_readTests_67 (by decide) ?_
        obtain ⟨q4, h_q4, h⟩ := bb h
        refine z_VV E F hw [.int y0, .int (0 : Int32)] (k_X6_addStep l D cy kc o0 y0 (0 : Int32) q3.2 h_q4 t_o0) t_o0 cf6 mk_X6_addStep vk_X6_addStep ml_X6_202 ⟨by simp only [rmK]; omega, by simp only [rmK]; omega⟩ rfl hl.1 rfl (Nat.le_of_ble_eq_true rfl) dX6_readTests_68 ⟨Nat.zero_le _, Nat.zero_le _⟩ (fun H locs hw hG => ?_)
        have t_o0 := hG.t t_o0
        have hg := hg.tr hG
        refine lv_iinc (v := z3 + 1) (lv' := [(3, .int (z3 + 1)), (2, .int q3.1), (4, .int y0), (0, .ref o0), (1, .int x1)]) hx hb dX6_readTests_71 hl (k := 4) rfl rfl (by decide) rfl (fun ls hl => ?_)
        refine lv_goto (tgt := 8) hx hb dX6_readTests_74 (by decide) ?_
        exact ih q3.1 (z3 + 1) q4.2 _ h _ _ _ hw (hG0.tr hg) t_o0 (lv_sub hl [3, 4, 1, 0] rfl) (fun e0 S2 he H locs ls hw hG hl => hx2 e0 S2 he H locs ls hw (hg.tr hG) hl) hq2
      have J37 : ∀ (z3 : Int32) (S3 : PS) (H : Heap) (locs : List Loc) (ls : Array Slot), (f_X6_readTests_37b8 tp o0 x1 z3 S3).bind (Sum.elim (loopN (fun a => f_X6_readTests_b8 tp o0 x1 a.1 a.2.1 a.2.2) n) some) = some o → Wd D cy A s H locs S3 → Gr S1 S3 → tD S3 o0 6 → lv_has ls 5 [(0, .ref o0), (1, .int x1), (3, .int z3)] → W p l e (rmK (fr + 5) (lo + 170) 0 0) s m args below meth c H locs 0 0 (MQ below (QI D cy S qq.2 qq.1 s.heap.size) args s 0 0 A) (F0 m 37 ls []) := by
        intro z3 S3 H locs ls h hw hg t_o0 hl
        rw [f_X6_readTests_37b8] at h
        refine lv_aload_n hx hb dX6_readTests_37 rfl (lv_at hl 0 rfl) ?_
        refine g_f E F hw t_o0 cf6 fk_X6_17 dX6_readTests_38 rfl ?_
        refine lv_bipush (v := 15) hx hb dX6_readTests_41 (by decide) ?_
        refine lv_icmp_ne (tgt := 50) hx hb dX6_readTests_43 (by decide) (fun c5 => ?_) (fun c5 => ?_)
        · rw [if_neg c5] at h
          refine lv_bipush (v := 6) hx hb dX6_readTests_50 (by decide) ?_
          exact J52 z3 (6 : Int32) S3 _ _ _ h hw hg t_o0 (lv_sub hl [0, 1, 2] rfl)
        · rw [if_pos c5] at h
          refine lv_iconst (v := 5) hx hb dX6_readTests_46 (by decide) ?_
          refine lv_goto (tgt := 52) hx hb dX6_readTests_47 (by decide) ?_
          exact J52 z3 (5 : Int32) S3 _ _ _ h hw hg t_o0 (lv_sub hl [0, 1, 2] rfl)
      rw [f_X6_readTests_b8] at h
      refine lv_iload_n hx hb dX6_readTests_8 rfl (lv_at hl 3 rfl) ?_
      refine lv_sipush (v := 1000) hx hb dX6_readTests_9 (by decide) ?_
      refine lv_icmp_ge (tgt := 77) hx hb dX6_readTests_12 (by decide) (fun c9 => ?_) (fun c9 => ?_)
      · rw [if_pos c9] at h
        obtain rfl := Option.some.inj h
        exact hx2 x2 S1 rfl _ _ _ hw hg (lv_sub hl [2] rfl)
      · rw [if_neg c9] at h
        refine lv_iload_n hx hb dX6_readTests_15 rfl (lv_at hl 2 rfl) ?_
        refine lv_if_eq (tgt := 77) hx hb dX6_readTests_16 (by decide) (fun c8 => ?_) (fun c8 => ?_)
        · rw [if_pos c8] at h
          obtain rfl := Option.some.inj h
          exact hx2 x2 S1 rfl _ _ _ hw hg (lv_sub hl [2] rfl)
        · rw [if_neg c8] at h
          refine lv_aload_n hx hb dX6_readTests_19 rfl (lv_at hl 0 rfl) ?_
          refine g_f E F hw t_o0 cf6 fk_X6_17 dX6_readTests_20 rfl ?_
          refine lv_bipush (v := 15) hx hb dX6_readTests_23 (by decide) ?_
          refine lv_icmp_eq (tgt := 37) hx hb dX6_readTests_25 (by decide) (fun c7 => ?_) (fun c7 => ?_)
          · rw [if_pos c7] at h
            exact J37 x3 S1 _ _ _ h hw hg t_o0 (lv_sub hl [0, 1, 3] rfl)
          · rw [if_neg c7] at h
            refine lv_aload_n hx hb dX6_readTests_28 rfl (lv_at hl 0 rfl) ?_
            refine g_f E F hw t_o0 cf6 fk_X6_17 dX6_readTests_29 rfl ?_
            refine lv_bipush (v := 16) hx hb dX6_readTests_32 (by decide) ?_
            refine lv_icmp_ne (tgt := 77) hx hb dX6_readTests_34 (by decide) (fun c6 => ?_) (fun c6 => ?_)
            · rw [if_neg c6] at h
              obtain rfl := Option.some.inj h
              exact hx2 x2 S1 rfl _ _ _ hw hg (lv_sub hl [2] rfl)
            · rw [if_pos c6] at h
              exact J37 x3 S1 _ _ _ h hw hg t_o0 (lv_sub hl [0, 1, 3] rfl)
  have J77 : ∀ (z2 : Int32) (S3 : PS) (H : Heap) (locs : List Loc) (ls : Array Slot), (f_X6_readTests_77 tp z2 S3).bind some = some qq → Wd D cy A s H locs S3 → Gr S S3 → lv_has ls 5 [(2, .int z2)] → W p l e (rmK (fr + 5) (lo + 170) 0 0) s m args below meth c H locs 0 0 (MQ below (QI D cy S qq.2 qq.1 s.heap.size) args s 0 0 A) (F0 m 77 ls []) := by
    intro z2 S3 H locs ls h hw hg  hl
    rw [f_X6_readTests_77] at h
    refine lv_iload_n hx hb dX6_readTests_77 rfl (lv_at hl 0 rfl) ?_
    obtain ⟨c11, h⟩ := bg h
    obtain rfl := Option.some.inj h
    exact r_Z E hr hlk F hA hw hg c11 dX6_readTests_78
  rw [f_X6_readTests] at h
  refine lv_aload_n hx hb dX6_readTests_0 rfl (lv_at hl 0 rfl) ?_
  refine lv_iload_n hx hb dX6_readTests_1 rfl (lv_at hl 1 rfl) ?_
  obtain ⟨q1, h_q1, h⟩ := bb h
  refine z_VI E F hw [.int x1] (k_X6_readTest l D cy kc tp fr lo hT o0 x1 S h_q1 t_o0) t_o0 cf6 mk_X6_readTest vk_X6_readTest ml_X6_199 ⟨by simp only [rmK]; omega, by simp only [rmK]; omega⟩ rfl hl.1 rfl (Nat.le_of_ble_eq_true rfl) dX6_readTests_2 ⟨Nat.zero_le _, Nat.zero_le _⟩ (fun H locs hw hG => ?_)
  have t_o0 := hG.t t_o0
  have hg := hg.tr hG
  refine lv_istore_n (lv' := [(2, .int q1.1), (0, .ref o0), (1, .int x1)]) hx hb dX6_readTests_5 rfl hl (by decide) rfl (fun ls hl => ?_)
  refine lv_iconst (v := 0) hx hb dX6_readTests_6 (by decide) ?_
  refine lv_istore_n (lv' := [(3, .int (0 : Int32)), (2, .int q1.1), (0, .ref o0), (1, .int x1)]) hx hb dX6_readTests_7 rfl hl (by decide) rfl (fun ls hl => ?_)
  obtain ⟨y10, hy10, h⟩ := bb h
  refine L8 o0 x1 fu q1.1 (0 : Int32) q1.2 y10 hy10 _ _ _ hw (hg) t_o0 (lv_sub hl [2, 3, 1, 0] rfl) (fun e0 S2 he H locs ls hw hG hl => ?_) (fun r he => ?_)
  · subst he
    have hg := hg.tr hG
    exact J77 e0 S2 _ _ _ h hw hg  (lv_sub hl [0] rfl)
  · subst he
    exact Option.some.inj h
def f_X6_readPart_62 (tp : Nat → Int32 → PS → Option (Int32 × PS)) (o0 : Nat) (x1 : Int32) (z2 : Int32) (S3 : PS) : Option (Int32 × PS) :=
  (if x1 < (5 : Int32) then (if (sI S3 o0 2) = (14 : Int32) then (f_X6_advance o0 S3).bind fun q10 => (tp o0 (x1 + (1 : Int32)) q10.2).bind fun q11 => (f_X6_addStep o0 (4 : Int32) (0 : Int32) q11.2).bind fun q12 => if isB q11.1 = true then some (q11.1, q12.2) else none else (if (sI S3 o0 2) = (20 : Int32) then (f_X6_advance o0 S3).bind fun q4 => (f_X6_readTests tp o0 (x1 + (1 : Int32)) q4.2).bind fun q5 => (if q5.1 = 0 then some ((0 : Int32), q5.2) else (f_X6_take o0 (21 : Int32) q5.2).bind fun q6 => (if q6.1 = 0 then some ((0 : Int32), q6.2) else some ((1 : Int32), q6.2))) else (f_X6_addLeaf o0 z2 S3).bind fun q2 => (f_X6_advance o0 q2.2).bind fun q3 => some ((1 : Int32), q3.2))) else (f_X6_refuse o0 (5 : Int32) S3).bind fun q15 => if isB q15.1 = true then some (q15.1, q15.2) else none)
def f_X6_readPart_41 (tp : Nat → Int32 → PS → Option (Int32 × PS)) (o0 : Nat) (x1 : Int32) (y0 : Int32) (S3 : PS) : Option (Int32 × PS) :=
  (if (sI S3 o0 2) = (18 : Int32) then (if y0 = (-1 : Int32) then (f_X6_refuse o0 (2 : Int32) S3).bind fun q18 => if isB q18.1 = true then some (q18.1, q18.2) else none else f_X6_readPart_62 tp o0 x1 y0 S3) else f_X6_readPart_62 tp o0 x1 y0 S3)
def f_X6_readPartB (tp : Nat → Int32 → PS → Option (Int32 × PS)) (o0 : Nat) (x1 : Int32) (S : PS) : Option (Int32 × PS) :=
  (f_X6_beginsPart o0 S).bind fun q1 => (if q1.1 = 0 then (f_X6_refuse o0 (1 : Int32) q1.2).bind fun q26 => if isB q26.1 = true then some (q26.1, q26.2) else none else (if (sI q1.2 o0 2) = (18 : Int32) then (rk q1.2 (sR q1.2 o0 5) 14).bind fun b22 => (rk q1.2 (sR q1.2 o0 4) 9).bind fun b23 => (f_X6_findName o0 b22 (sI q1.2 b23 0) q1.2).bind fun q24 => f_X6_readPart_41 tp o0 x1 q24.1 q24.2 else f_X6_readPart_41 tp o0 x1 (-1 : Int32) q1.2))
set_option maxHeartbeats 4000000 in
set_option maxRecDepth 100000 in
theorem k_X6_readPartB (l : Launch) (D : va_G) (cy : Nat → ClassId) (kc : Nat → Nat) (tp : Nat → Int32 → PS → Option (Int32 × PS)) (fr lo : Nat) (hT : ∀ (o0 : Nat) (x1 : Int32) (S : PS) (qq : Int32 × PS), tp o0 x1 S = some qq → tD S o0 6 → KI l D cy kc yX6_readPart cX6_readPart 4 .boolean (rmK fr lo 0 0) [.ref o0, .int x1] S qq.1 qq.2) (o0 : Nat) (x1 : Int32) (S : PS) {qq : Int32 × PS} (h : f_X6_readPartB tp o0 x1 S = some qq) (t_o0 : tD S o0 6) : KI l D cy kc yX6_readPart cX6_readPart 4 .boolean (rmK (fr + 6) (lo + 210) 0 0) [.ref o0, .int x1] S qq.1 qq.2 := by
  refine K_body (Qc := QI D cy S qq.2 qq.1) (by decide) (Nat.le_of_ble_eq_true rfl) ?_
  intro p e s m below meth c A ls args E hr hlk hnm hA F hw hl
  have hx := E.1
  have hb := E.2.1
  have hl : lv_has ls 4 [(0, .ref o0), (1, .int x1)] := hl
  have hg : Gr S S := Gr.rf
  replace h : (f_X6_readPartB tp o0 x1 S).bind some = some qq := by rw [h]; rfl
  have J62 : ∀ (z2 : Int32) (S3 : PS) (H : Heap) (locs : List Loc) (ls : Array Slot), (f_X6_readPart_62 tp o0 x1 z2 S3).bind some = some qq → Wd D cy A s H locs S3 → Gr S S3 → tD S3 o0 6 → lv_has ls 4 [(0, .ref o0), (1, .int x1), (2, .int z2)] → W p l e (rmK (fr + 6) (lo + 210) 0 0) s m args below meth c H locs 0 0 (MQ below (QI D cy S qq.2 qq.1 s.heap.size) args s 0 0 A) (F0 m 62 ls []) := by
    intro z2 S3 H locs ls h hw hg t_o0 hl
    rw [f_X6_readPart_62] at h
    refine lv_iload_n hx hb dX6_readPart_62 rfl (lv_at hl 1 rfl) ?_
    refine lv_iconst (v := 5) hx hb dX6_readPart_63 (by decide) ?_
    refine lv_icmp_lt (tgt := 73) hx hb dX6_readPart_64 (by decide) (fun c17 => ?_) (fun c17 => ?_)
    · rw [if_pos c17] at h
      refine lv_aload_n hx hb dX6_readPart_73 rfl (lv_at hl 0 rfl) ?_
      refine g_f E F hw t_o0 cf6 fk_X6_17 dX6_readPart_74 rfl ?_
      refine lv_bipush (v := 14) hx hb dX6_readPart_77 (by decide) ?_
      refine lv_icmp_ne (tgt := 102) hx hb dX6_readPart_79 (by decide) (fun c14 => ?_) (fun c14 => ?_)
      · rw [if_neg c14] at h
        refine lv_aload_n hx hb dX6_readPart_102 rfl (lv_at hl 0 rfl) ?_
        refine g_f E F hw t_o0 cf6 fk_X6_17 dX6_readPart_103 rfl ?_
        refine lv_bipush (v := 20) hx hb dX6_readPart_106 (by decide) ?_
        refine lv_icmp_ne (tgt := 140) hx hb dX6_readPart_108 (by decide) (fun c9 => ?_) (fun c9 => ?_)
        · rw [if_neg c9] at h
          refine lv_aload_n hx hb dX6_readPart_140 rfl (lv_at hl 0 rfl) ?_
          refine lv_iload_n hx hb dX6_readPart_141 rfl (lv_at hl 2 rfl) ?_
          obtain ⟨q2, h_q2, h⟩ := bb h
          refine z_VV E F hw [.int z2] (k_X6_addLeaf l D cy kc o0 z2 S3 h_q2 t_o0) t_o0 cf6 mk_X6_addLeaf vk_X6_addLeaf ml_X6_218 ⟨by simp only [rmK]; omega, by simp only [rmK]; omega⟩ rfl hl.1 rfl (Nat.le_of_ble_eq_true rfl) dX6_readPart_142 ⟨Nat.zero_le _, Nat.zero_le _⟩ (fun H locs hw hG => ?_)
          have t_o0 := hG.t t_o0
          have hg := hg.tr hG
          refine lv_aload_n hx hb dX6_readPart_145 rfl (lv_at hl 0 rfl) ?_
          obtain ⟨q3, h_q3, h⟩ := bb h
          refine z_VV E F hw [] (k_X6_advance l D cy kc o0 q2.2 h_q3 t_o0) t_o0 cf6 mk_X6_advance vk_X6_advance ml_X6_130 ⟨by simp only [rmK]; omega, by simp only [rmK]; omega⟩ rfl hl.1 rfl (Nat.le_of_ble_eq_true rfl) dX6_readPart_146 ⟨Nat.zero_le _, Nat.zero_le _⟩ (fun H locs hw hG => ?_)
          have t_o0 := hG.t t_o0
          have hg := hg.tr hG
          refine lv_iconst (v := 1) hx hb dX6_readPart_149 (by decide) ?_
          obtain rfl := Option.some.inj h
          exact r_Z E hr hlk F hA hw hg rfl dX6_readPart_150
        · rw [if_pos c9] at h
          refine lv_aload_n hx hb dX6_readPart_111 rfl (lv_at hl 0 rfl) ?_
          obtain ⟨q4, h_q4, h⟩ := bb h
          refine z_VV E F hw [] (k_X6_advance l D cy kc o0 S3 h_q4 t_o0) t_o0 cf6 mk_X6_advance vk_X6_advance ml_X6_130 ⟨by simp only [rmK]; omega, by simp only [rmK]; omega⟩ rfl hl.1 rfl (Nat.le_of_ble_eq_true rfl) dX6_readPart_112 ⟨Nat.zero_le _, Nat.zero_le _⟩ (fun H locs hw hG => ?_)
          have t_o0 := hG.t t_o0
          have hg := hg.tr hG
          refine lv_aload_n hx hb dX6_readPart_115 rfl (lv_at hl 0 rfl) ?_
          refine lv_iload_n hx hb dX6_readPart_116 rfl (lv_at hl 1 rfl) ?_
          refine lv_iconst (v := 1) hx hb dX6_readPart_117 (by decide) ?_
          refine lv_iadd hx hb dX6_readPart_118 ?_
          obtain ⟨q5, h_q5, h⟩ := bb h
          refine z_VI E F hw [.int (x1 + (1 : Int32))] (k_X6_readTests l D cy kc tp fr lo hT o0 (x1 + (1 : Int32)) q4.2 h_q5 t_o0) t_o0 cf6 mk_X6_readTests vk_X6_readTests ml_X6_196 ⟨by simp only [rmK]; omega, by simp only [rmK]; omega⟩ rfl hl.1 rfl (Nat.le_of_ble_eq_true rfl) dX6_readPart_119 ⟨Nat.zero_le _, Nat.zero_le _⟩ (fun H locs hw hG => ?_)
          have t_o0 := hG.t t_o0
          have hg := hg.tr hG
          refine lv_if_eq (tgt := 138) hx hb dX6_readPart_122 (by decide) (fun c8 => ?_) (fun c8 => ?_)
          · rw [if_pos c8] at h
            refine lv_iconst (v := 0) hx hb dX6_readPart_138 (by decide) ?_
            obtain rfl := Option.some.inj h
            exact r_Z E hr hlk F hA hw hg rfl dX6_readPart_139
          · rw [if_neg c8] at h
            refine lv_aload_n hx hb dX6_readPart_125 rfl (lv_at hl 0 rfl) ?_
            refine lv_bipush (v := 21) hx hb dX6_readPart_126 (by decide) ?_
            obtain ⟨q6, h_q6, h⟩ := bb h
            refine z_VI E F hw [.int (21 : Int32)] (k_X6_take l D cy kc o0 (21 : Int32) q5.2 h_q6 t_o0) t_o0 cf6 mk_X6_take vk_X6_take ml_X6_136 ⟨by simp only [rmK]; omega, by simp only [rmK]; omega⟩ rfl hl.1 rfl (Nat.le_of_ble_eq_true rfl) dX6_readPart_128 ⟨Nat.zero_le _, Nat.zero_le _⟩ (fun H locs hw hG => ?_)
            have t_o0 := hG.t t_o0
            have hg := hg.tr hG
            refine lv_if_eq (tgt := 138) hx hb dX6_readPart_131 (by decide) (fun c7 => ?_) (fun c7 => ?_)
            · rw [if_pos c7] at h
              refine lv_iconst (v := 0) hx hb dX6_readPart_138 (by decide) ?_
              obtain rfl := Option.some.inj h
              exact r_Z E hr hlk F hA hw hg rfl dX6_readPart_139
            · rw [if_neg c7] at h
              refine lv_iconst (v := 1) hx hb dX6_readPart_134 (by decide) ?_
              refine lv_goto (tgt := 139) hx hb dX6_readPart_135 (by decide) ?_
              obtain rfl := Option.some.inj h
              exact r_Z E hr hlk F hA hw hg rfl dX6_readPart_139
      · rw [if_pos c14] at h
        refine lv_aload_n hx hb dX6_readPart_82 rfl (lv_at hl 0 rfl) ?_
        obtain ⟨q10, h_q10, h⟩ := bb h
        refine z_VV E F hw [] (k_X6_advance l D cy kc o0 S3 h_q10 t_o0) t_o0 cf6 mk_X6_advance vk_X6_advance ml_X6_130 ⟨by simp only [rmK]; omega, by simp only [rmK]; omega⟩ rfl hl.1 rfl (Nat.le_of_ble_eq_true rfl) dX6_readPart_83 ⟨Nat.zero_le _, Nat.zero_le _⟩ (fun H locs hw hG => ?_)
        have t_o0 := hG.t t_o0
        have hg := hg.tr hG
        refine lv_aload_n hx hb dX6_readPart_86 rfl (lv_at hl 0 rfl) ?_
        refine lv_iload_n hx hb dX6_readPart_87 rfl (lv_at hl 1 rfl) ?_
        refine lv_iconst (v := 1) hx hb dX6_readPart_88 (by decide) ?_
        refine lv_iadd hx hb dX6_readPart_89 ?_
        obtain ⟨q11, h_q11, h⟩ := bb h
        refine z_VI E F hw [.int (x1 + (1 : Int32))] (hT o0 (x1 + (1 : Int32)) q10.2 _ h_q11 t_o0) t_o0 cf6 mk_X6_readPart vk_X6_readPart ml_X6_212 ⟨by simp only [rmK]; omega, by simp only [rmK]; omega⟩ rfl hl.1 rfl (Nat.le_of_ble_eq_true rfl) dX6_readPart_90 ⟨Nat.zero_le _, Nat.zero_le _⟩ (fun H locs hw hG => ?_)
        have t_o0 := hG.t t_o0
        have hg := hg.tr hG
        refine lv_istore_n (lv' := [(3, .int q11.1), (0, .ref o0), (1, .int x1), (2, .int z2)]) hx hb dX6_readPart_93 rfl hl (by decide) rfl (fun ls hl => ?_)
        refine lv_aload_n hx hb dX6_readPart_94 rfl (lv_at hl 1 rfl) ?_
        refine lv_iconst (v := 4) hx hb dX6_readPart_95 (by decide) ?_
        refine lv_iconst (v := 0) hx hb dX6_readPart_96 (by decide) ?_
        obtain ⟨q12, h_q12, h⟩ := bb h
        refine z_VV E F hw [.int (4 : Int32), .int (0 : Int32)] (k_X6_addStep l D cy kc o0 (4 : Int32) (0 : Int32) q11.2 h_q12 t_o0) t_o0 cf6 mk_X6_addStep vk_X6_addStep ml_X6_202 ⟨by simp only [rmK]; omega, by simp only [rmK]; omega⟩ rfl hl.1 rfl (Nat.le_of_ble_eq_true rfl) dX6_readPart_97 ⟨Nat.zero_le _, Nat.zero_le _⟩ (fun H locs hw hG => ?_)
        have t_o0 := hG.t t_o0
        have hg := hg.tr hG
        refine lv_iload_n hx hb dX6_readPart_100 rfl (lv_at hl 0 rfl) ?_
        obtain ⟨c13, h⟩ := bg h
        obtain rfl := Option.some.inj h
        exact r_Z E hr hlk F hA hw hg c13 dX6_readPart_101
    · rw [if_neg c17] at h
      refine lv_aload_n hx hb dX6_readPart_67 rfl (lv_at hl 0 rfl) ?_
      refine lv_iconst (v := 5) hx hb dX6_readPart_68 (by decide) ?_
      obtain ⟨q15, h_q15, h⟩ := bb h
      refine z_VI E F hw [.int (5 : Int32)] (k_X6_refuse l D cy kc o0 (5 : Int32) S3 h_q15 t_o0) t_o0 cf6 mk_X6_refuse vk_X6_refuse ml_X6_90 ⟨by simp only [rmK]; omega, by simp only [rmK]; omega⟩ rfl hl.1 rfl (Nat.le_of_ble_eq_true rfl) dX6_readPart_69 ⟨Nat.zero_le _, Nat.zero_le _⟩ (fun H locs hw hG => ?_)
      have t_o0 := hG.t t_o0
      have hg := hg.tr hG
      obtain ⟨c16, h⟩ := bg h
      obtain rfl := Option.some.inj h
      exact r_Z E hr hlk F hA hw hg c16 dX6_readPart_72
  have J41 : ∀ (y0 : Int32) (S3 : PS) (H : Heap) (locs : List Loc) (ls : Array Slot), (f_X6_readPart_41 tp o0 x1 y0 S3).bind some = some qq → Wd D cy A s H locs S3 → Gr S S3 → tD S3 o0 6 → lv_has ls 4 [(0, .ref o0), (1, .int x1)] → W p l e (rmK (fr + 6) (lo + 210) 0 0) s m args below meth c H locs 0 0 (MQ below (QI D cy S qq.2 qq.1 s.heap.size) args s 0 0 A) (F0 m 41 ls [.int y0]) := by
    intro y0 S3 H locs ls h hw hg t_o0 hl
    rw [f_X6_readPart_41] at h
    refine lv_istore_n (lv' := [(2, .int y0), (0, .ref o0), (1, .int x1)]) hx hb dX6_readPart_41 rfl hl (by decide) rfl (fun ls hl => ?_)
    refine lv_aload_n hx hb dX6_readPart_42 rfl (lv_at hl 1 rfl) ?_
    refine g_f E F hw t_o0 cf6 fk_X6_17 dX6_readPart_43 rfl ?_
    refine lv_bipush (v := 18) hx hb dX6_readPart_46 (by decide) ?_
    refine lv_icmp_ne (tgt := 62) hx hb dX6_readPart_48 (by decide) (fun c21 => ?_) (fun c21 => ?_)
    · rw [if_neg c21] at h
      exact J62 y0 S3 _ _ _ h hw hg t_o0 (lv_sub hl [1, 2, 0] rfl)
    · rw [if_pos c21] at h
      refine lv_iload_n hx hb dX6_readPart_51 rfl (lv_at hl 0 rfl) ?_
      refine lv_iconst (v := (-1)) hx hb dX6_readPart_52 (by decide) ?_
      refine lv_icmp_ne (tgt := 62) hx hb dX6_readPart_53 (by decide) (fun c20 => ?_) (fun c20 => ?_)
      · rw [if_neg c20] at h
        exact J62 y0 S3 _ _ _ h hw hg t_o0 (lv_sub hl [1, 2, 0] rfl)
      · rw [if_pos c20] at h
        refine lv_aload_n hx hb dX6_readPart_56 rfl (lv_at hl 1 rfl) ?_
        refine lv_iconst (v := 2) hx hb dX6_readPart_57 (by decide) ?_
        obtain ⟨q18, h_q18, h⟩ := bb h
        refine z_VI E F hw [.int (2 : Int32)] (k_X6_refuse l D cy kc o0 (2 : Int32) S3 h_q18 t_o0) t_o0 cf6 mk_X6_refuse vk_X6_refuse ml_X6_90 ⟨by simp only [rmK]; omega, by simp only [rmK]; omega⟩ rfl hl.1 rfl (Nat.le_of_ble_eq_true rfl) dX6_readPart_58 ⟨Nat.zero_le _, Nat.zero_le _⟩ (fun H locs hw hG => ?_)
        have t_o0 := hG.t t_o0
        have hg := hg.tr hG
        obtain ⟨c19, h⟩ := bg h
        obtain rfl := Option.some.inj h
        exact r_Z E hr hlk F hA hw hg c19 dX6_readPart_61
  rw [f_X6_readPartB] at h
  refine lv_aload_n hx hb dX6_readPart_0 rfl (lv_at hl 0 rfl) ?_
  obtain ⟨q1, h_q1, h⟩ := bb h
  refine z_VI E F hw [] (k_X6_beginsPart l D cy kc o0 S h_q1 t_o0) t_o0 cf6 mk_X6_beginsPart vk_X6_beginsPart ml_X6_215 ⟨by simp only [rmK]; omega, by simp only [rmK]; omega⟩ rfl hl.1 rfl (Nat.le_of_ble_eq_true rfl) dX6_readPart_1 ⟨Nat.zero_le _, Nat.zero_le _⟩ (fun H locs hw hG => ?_)
  have t_o0 := hG.t t_o0
  have hg := hg.tr hG
  refine lv_if_ne (tgt := 13) hx hb dX6_readPart_4 (by decide) (fun c28 => ?_) (fun c28 => ?_)
  · rw [if_neg c28] at h
    refine lv_aload_n hx hb dX6_readPart_13 rfl (lv_at hl 0 rfl) ?_
    refine g_f E F hw t_o0 cf6 fk_X6_17 dX6_readPart_14 rfl ?_
    refine lv_bipush (v := 18) hx hb dX6_readPart_17 (by decide) ?_
    refine lv_icmp_ne (tgt := 40) hx hb dX6_readPart_19 (by decide) (fun c25 => ?_) (fun c25 => ?_)
    · rw [if_neg c25] at h
      refine lv_iconst (v := (-1)) hx hb dX6_readPart_40 (by decide) ?_
      exact J41 (-1 : Int32) q1.2 _ _ _ h hw hg t_o0 (lv_sub hl [0, 1] rfl)
    · rw [if_pos c25] at h
      refine lv_aload_n hx hb dX6_readPart_22 rfl (lv_at hl 0 rfl) ?_
      refine lv_aload_n hx hb dX6_readPart_23 rfl (lv_at hl 0 rfl) ?_
      obtain ⟨b22, r_b22, h⟩ := bb h
      obtain ⟨r_b22, t_b22⟩ := rk_some r_b22
      refine g_R E F hw t_o0 cf6 fk_X6_30 dX6_readPart_24 rfl r_b22 ?_
      refine lv_aload_n hx hb dX6_readPart_27 rfl (lv_at hl 0 rfl) ?_
      obtain ⟨b23, r_b23, h⟩ := bb h
      obtain ⟨r_b23, t_b23⟩ := rk_some r_b23
      refine g_R E F hw t_o0 cf6 fk_X6_26 dX6_readPart_28 rfl r_b23 ?_
      refine g_f E F hw t_b23 cf9 fk_X6_127 dX6_readPart_31 rfl ?_
      obtain ⟨q24, h_q24, h⟩ := bb h
      refine z_VI E F hw [.ref b22, .int (sI q1.2 b23 0)] (k_X6_findName l D cy kc o0 b22 (sI q1.2 b23 0) q1.2 h_q24 t_o0 t_b22) t_o0 cf6 mk_X6_findName vk_X6_findName ml_X6_177 ⟨by simp only [rmK]; omega, by simp only [rmK]; omega⟩ rfl hl.1 rfl (Nat.le_of_ble_eq_true rfl) dX6_readPart_34 ⟨Nat.zero_le _, Nat.zero_le _⟩ (fun H locs hw hG => ?_)
      have t_o0 := hG.t t_o0
      have hg := hg.tr hG
      refine lv_goto (tgt := 41) hx hb dX6_readPart_37 (by decide) ?_
      exact J41 q24.1 q24.2 _ _ _ h hw hg t_o0 (lv_sub hl [0, 1] rfl)
  · rw [if_pos c28] at h
    refine lv_aload_n hx hb dX6_readPart_7 rfl (lv_at hl 0 rfl) ?_
    refine lv_iconst (v := 1) hx hb dX6_readPart_8 (by decide) ?_
    obtain ⟨q26, h_q26, h⟩ := bb h
    refine z_VI E F hw [.int (1 : Int32)] (k_X6_refuse l D cy kc o0 (1 : Int32) q1.2 h_q26 t_o0) t_o0 cf6 mk_X6_refuse vk_X6_refuse ml_X6_90 ⟨by simp only [rmK]; omega, by simp only [rmK]; omega⟩ rfl hl.1 rfl (Nat.le_of_ble_eq_true rfl) dX6_readPart_9 ⟨Nat.zero_le _, Nat.zero_le _⟩ (fun H locs hw hG => ?_)
    have t_o0 := hG.t t_o0
    have hg := hg.tr hG
    obtain ⟨c27, h⟩ := bg h
    obtain rfl := Option.some.inj h
    exact r_Z E hr hlk F hA hw hg c27 dX6_readPart_12
def f_X6_readPart : Nat → Nat → Int32 → PS → Option (Int32 × PS)
  | 0, _, _, _ => none
  | n + 1, o0, x1, S => f_X6_readPartB (f_X6_readPart n) o0 x1 S
theorem k_X6_readPart (l : Launch) (D : va_G) (cy : Nat → ClassId) (kc : Nat → Nat) (n : Nat) : ∀ (o0 : Nat) (x1 : Int32) (S : PS) (qq : Int32 × PS), f_X6_readPart n o0 x1 S = some qq → tD S o0 6 → KI l D cy kc yX6_readPart cX6_readPart 4 .boolean (rmK (1 + 6 * n) (15 + 210 * n) 0 0) [.ref o0, .int x1] S qq.1 qq.2 := by
  induction n with
  | zero => intro o0 x1 S qq h; cases h
  | succ n ih =>
    intro o0 x1 S qq h t
    have e1 : 1 + 6 * (n + 1) = (1 + 6 * n) + 6 := by omega
    have e2 : 15 + 210 * (n + 1) = (15 + 210 * n) + 210 := by omega
    rw [e1, e2]
    exact k_X6_readPartB l D cy kc (f_X6_readPart n) _ _ ih o0 x1 S h t
def f_X6_readFormula (o0 : Nat) (x1 : Int32) (S : PS) : Option (Int32 × PS) :=
  if isB x1 = true then (f_X6_readTests (f_X6_readPart 6) o0 (0 : Int32) (pI (pI S o0 10 x1) o0 12 (0 : Int32))).bind fun q2 => if isB q2.1 = true then some (q2.1, q2.2) else none else none
set_option maxHeartbeats 4000000 in
set_option maxRecDepth 100000 in
theorem k_X6_readFormula (l : Launch) (D : va_G) (cy : Nat → ClassId) (kc : Nat → Nat) (o0 : Nat) (x1 : Int32) (S : PS) {qq : Int32 × PS} (h : f_X6_readFormula o0 x1 S = some qq) (t_o0 : tD S o0 6) : KI l D cy kc yX6_readFormula cX6_readFormula 2 .boolean (rmK 43 1485 0 0) [.ref o0, .int x1] S qq.1 qq.2 := by
  refine K_body (Qc := QI D cy S qq.2 qq.1) (by decide) (Nat.le_of_ble_eq_true rfl) ?_
  intro p e s m below meth c A ls args E hr hlk hnm hA F hw hl
  have hx := E.1
  have hb := E.2.1
  have hl : lv_has ls 2 [(0, .ref o0), (1, .int x1)] := hl
  have hg : Gr S S := Gr.rf
  replace h : (f_X6_readFormula o0 x1 S).bind some = some qq := by rw [h]; rfl
  rw [f_X6_readFormula] at h
  refine lv_aload_n hx hb dX6_readFormula_0 rfl (lv_at hl 0 rfl) ?_
  refine lv_iload_n hx hb dX6_readFormula_1 rfl (lv_at hl 1 rfl) ?_
  obtain ⟨c1, h⟩ := bg h
  refine p_I E F hw t_o0 cf6 fk_X6_48 rfl (isB_nar c1) (isB_fit c1) dX6_readFormula_2 rfl (fun H locs hw => ?_)
  refine lv_aload_n hx hb dX6_readFormula_5 rfl (lv_at hl 0 rfl) ?_
  refine lv_iconst (v := 0) hx hb dX6_readFormula_6 (by decide) ?_
  refine p_I E F hw t_o0 cf6 fk_X6_55 rfl rfl rfl dX6_readFormula_7 rfl (fun H locs hw => ?_)
  refine lv_aload_n hx hb dX6_readFormula_10 rfl (lv_at hl 0 rfl) ?_
  refine lv_iconst (v := 0) hx hb dX6_readFormula_11 (by decide) ?_
  obtain ⟨q2, h_q2, h⟩ := bb h
  refine z_VI E F hw [.int (0 : Int32)] (k_X6_readTests l D cy kc (f_X6_readPart 6) _ _ (k_X6_readPart l D cy kc 6) o0 (0 : Int32) (pI (pI S o0 10 x1) o0 12 (0 : Int32)) h_q2 t_o0) t_o0 cf6 mk_X6_readTests vk_X6_readTests ml_X6_196 ⟨by decide, by decide⟩ rfl hl.1 rfl (Nat.le_of_ble_eq_true rfl) dX6_readFormula_12 ⟨Nat.zero_le _, Nat.zero_le _⟩ (fun H locs hw hG => ?_)
  have t_o0 := hG.t t_o0
  have hg := hg.tr hG
  obtain ⟨c3, h⟩ := bg h
  obtain rfl := Option.some.inj h
  exact r_Z E hr hlk F hA hw hg c3 dX6_readFormula_15
