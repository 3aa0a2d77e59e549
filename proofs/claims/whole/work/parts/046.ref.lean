def f_X11_keepsAsked_b2 (o0 : Nat) (x1 : Int32) (x2 : Int32) (S1 : PS) : Option ((Int32 × PS) ⊕ ((Unit × PS) ⊕ (PS))) :=
  (if (3 : Int32) ≤ x2 then some (.inr (.inr (S1))) else (if x1 = 0 then (rk S1 (sR S1 o0 39) 13).bind fun b1 => (rk S1 (sR S1 o0 10) 13).bind fun b2 => if ib ((45 : Int32) + x2) (sN S1 b2) = true then if ib x2 (sN S1 b1) = true then some (.inl (x2 + 1, pI S1 b1 (Int32.toNatClampNeg x2) (sI S1 b2 (Int32.toNatClampNeg ((45 : Int32) + x2))))) else none else none else (rk S1 (sR S1 o0 10) 13).bind fun b5 => (rk S1 (sR S1 o0 39) 13).bind fun b6 => if ib x2 (sN S1 b6) = true then if ib ((45 : Int32) + x2) (sN S1 b5) = true then some (.inl (x2 + 1, pI S1 b5 (Int32.toNatClampNeg ((45 : Int32) + x2)) (sI S1 b6 (Int32.toNatClampNeg x2)))) else none else none))
def f_X11_keepsAsked_50 (o0 : Nat) (S3 : PS) : Option (Unit × PS) :=
  some ((), pI S3 o0 19 (1 : Int32))
def f_X11_keepsAsked (o0 : Nat) (x1 : Int32) (S : PS) : Option (Unit × PS) :=
  (loopN (fun a => f_X11_keepsAsked_b2 o0 x1 a.1 a.2) fu ((0 : Int32), S)).bind (Sum.elim (fun r => some r) (fun a => f_X11_keepsAsked_50 o0 a))
set_option maxHeartbeats 4000000 in
set_option maxRecDepth 100000 in
theorem k_X11_keepsAsked (l : Launch) (D : va_G) (cy : Nat → ClassId) (kc : Nat → Nat) (o0 : Nat) (x1 : Int32) (S : PS) {qq : Unit × PS} (h : f_X11_keepsAsked o0 x1 S = some qq) (t_o0 : tD S o0 11) : KV l D cy kc yX11_keepsAsked cX11_keepsAsked 3 (rmK 1 14 0 0) [.ref o0, .int x1] S qq.2 := by
  refine K_body (Qc := QV D cy S qq.2) (by decide) (Nat.le_of_ble_eq_true rfl) ?_
  intro p e s m below meth c A ls args E hr hlk hnm hA F hw hl
  have hx := E.1
  have hb := E.2.1
  have hl : lv_has ls 3 [(0, .ref o0), (1, .int x1)] := hl
  have hg : Gr S S := Gr.rf
  replace h : (f_X11_keepsAsked o0 x1 S).bind some = some qq := by rw [h]; rfl
  have L2 : ∀ (o0 : Nat) (x1 : Int32) (n : Nat) (x2 : Int32) (S1 : PS) (o : (Unit × PS) ⊕ (PS)), loopN (fun a => f_X11_keepsAsked_b2 o0 x1 a.1 a.2) n (x2, S1) = some o → ∀ (H : Heap) (locs : List Loc) (ls : Array Slot), Wd D cy A s H locs S1 → Gr S S1 → tD S1 o0 11 → lv_has ls 3 [(0, .ref o0), (1, .int x1), (2, .int x2)] → (∀ (S2 : PS), o = .inr (S2) → ∀ (H : Heap) (locs : List Loc) (ls : Array Slot), Wd D cy A s H locs S2 → Gr S1 S2 → lv_has ls 3 [(0, .ref o0)] → W p l e (rmK 1 14 0 0) s m args below meth c H locs 0 0 (MQ below (QV D cy S qq.2 s.heap.size) args s 0 0 A) (F0 m 50 ls [])) → (∀ q9, o = .inl q9 → q9 = qq) → W p l e (rmK 1 14 0 0) s m args below meth c H locs 0 0 (MQ below (QV D cy S qq.2 s.heap.size) args s 0 0 A) (F0 m 2 ls []) := by
    intro o0 x1 n
    induction n with
    | zero => intro x2 S1 o h; exact absurd h (by simp [loopN])
    | succ n ih =>
      intro x2 S1 o h H locs ls hw hG0 t_o0 hl hx2 hq2
      have hg : Gr S1 S1 := Gr.rf
      replace h : (f_X11_keepsAsked_b2 o0 x1 x2 S1).bind (Sum.elim (loopN (fun a => f_X11_keepsAsked_b2 o0 x1 a.1 a.2) n) some) = some o := h
      rw [f_X11_keepsAsked_b2] at h
      refine lv_iload_n hx hb dX11_keepsAsked_2 rfl (lv_at hl 2 rfl) ?_
      refine lv_iconst (v := 3) hx hb dX11_keepsAsked_3 (by decide) ?_
      refine lv_icmp_ge (tgt := 50) hx hb dX11_keepsAsked_4 (by decide) (fun c10 => ?_) (fun c10 => ?_)
      · rw [if_pos c10] at h
        obtain rfl := Option.some.inj h
        exact hx2 S1 rfl _ _ _ hw hg (lv_sub hl [0] rfl)
      · rw [if_neg c10] at h
        refine lv_iload_n hx hb dX11_keepsAsked_7 rfl (lv_at hl 1 rfl) ?_
        refine lv_if_eq (tgt := 29) hx hb dX11_keepsAsked_8 (by decide) (fun c9 => ?_) (fun c9 => ?_)
        · rw [if_pos c9] at h
          refine lv_aload_n hx hb dX11_keepsAsked_29 rfl (lv_at hl 0 rfl) ?_
          obtain ⟨b1, r_b1, h⟩ := bb h
          obtain ⟨r_b1, t_b1⟩ := rk_some r_b1
          refine g_R E F hw t_o0 cf11 fk_X11_145 dX11_keepsAsked_30 rfl r_b1 ?_
          refine lv_iload_n hx hb dX11_keepsAsked_33 rfl (lv_at hl 2 rfl) ?_
          refine lv_aload_n hx hb dX11_keepsAsked_34 rfl (lv_at hl 0 rfl) ?_
          obtain ⟨b2, r_b2, h⟩ := bb h
          obtain ⟨r_b2, t_b2⟩ := rk_some r_b2
          refine g_R E F hw t_o0 cf11 fk_X11_73 dX11_keepsAsked_35 rfl r_b2 ?_
          refine lv_bipush (v := 45) hx hb dX11_keepsAsked_38 (by decide) ?_
          refine lv_iload_n hx hb dX11_keepsAsked_40 rfl (lv_at hl 2 rfl) ?_
          refine lv_iadd hx hb dX11_keepsAsked_41 ?_
          obtain ⟨c3, h⟩ := bg h
          refine a_i E F hw t_b2 c3 dX11_keepsAsked_42 ?_
          obtain ⟨c4, h⟩ := bg h
          refine b_i E F hw t_b1 c4 dX11_keepsAsked_43 (fun H locs hw => ?_)
          refine lv_iinc (v := x2 + 1) (lv' := [(2, .int (x2 + 1)), (0, .ref o0), (1, .int x1)]) hx hb dX11_keepsAsked_44 hl (k := 2) rfl rfl (by decide) rfl (fun ls hl => ?_)
          refine lv_goto (tgt := 2) hx hb dX11_keepsAsked_47 (by decide) ?_
          exact ih (x2 + 1) (pI S1 b1 (Int32.toNatClampNeg x2) (sI S1 b2 (Int32.toNatClampNeg ((45 : Int32) + x2)))) _ h _ _ _ hw (hG0.tr hg) t_o0 (lv_sub hl [1, 2, 0] rfl) (fun  S2 he H locs ls hw hG hl => hx2  S2 he H locs ls hw (hg.tr hG) hl) hq2
        · rw [if_neg c9] at h
          refine lv_aload_n hx hb dX11_keepsAsked_11 rfl (lv_at hl 0 rfl) ?_
          obtain ⟨b5, r_b5, h⟩ := bb h
          obtain ⟨r_b5, t_b5⟩ := rk_some r_b5
          refine g_R E F hw t_o0 cf11 fk_X11_73 dX11_keepsAsked_12 rfl r_b5 ?_
          refine lv_bipush (v := 45) hx hb dX11_keepsAsked_15 (by decide) ?_
          refine lv_iload_n hx hb dX11_keepsAsked_17 rfl (lv_at hl 2 rfl) ?_
          refine lv_iadd hx hb dX11_keepsAsked_18 ?_
          refine lv_aload_n hx hb dX11_keepsAsked_19 rfl (lv_at hl 0 rfl) ?_
          obtain ⟨b6, r_b6, h⟩ := bb h
          obtain ⟨r_b6, t_b6⟩ := rk_some r_b6
          refine g_R E F hw t_o0 cf11 fk_X11_145 dX11_keepsAsked_20 rfl r_b6 ?_
          refine lv_iload_n hx hb dX11_keepsAsked_23 rfl (lv_at hl 2 rfl) ?_
          obtain ⟨c7, h⟩ := bg h
          refine a_i E F hw t_b6 c7 dX11_keepsAsked_24 ?_
          obtain ⟨c8, h⟩ := bg h
          refine b_i E F hw t_b5 c8 dX11_keepsAsked_25 (fun H locs hw => ?_)
          refine lv_goto (tgt := 44) hx hb dX11_keepsAsked_26 (by decide) ?_
          refine lv_iinc (v := x2 + 1) (lv' := [(2, .int (x2 + 1)), (0, .ref o0), (1, .int x1)]) hx hb dX11_keepsAsked_44 hl (k := 2) rfl rfl (by decide) rfl (fun ls hl => ?_)
          refine lv_goto (tgt := 2) hx hb dX11_keepsAsked_47 (by decide) ?_
          exact ih (x2 + 1) (pI S1 b5 (Int32.toNatClampNeg ((45 : Int32) + x2)) (sI S1 b6 (Int32.toNatClampNeg x2))) _ h _ _ _ hw (hG0.tr hg) t_o0 (lv_sub hl [1, 2, 0] rfl) (fun  S2 he H locs ls hw hG hl => hx2  S2 he H locs ls hw (hg.tr hG) hl) hq2
  have J50 : ∀  (S3 : PS) (H : Heap) (locs : List Loc) (ls : Array Slot), (f_X11_keepsAsked_50 o0 S3).bind some = some qq → Wd D cy A s H locs S3 → Gr S S3 → tD S3 o0 11 → lv_has ls 3 [(0, .ref o0)] → W p l e (rmK 1 14 0 0) s m args below meth c H locs 0 0 (MQ below (QV D cy S qq.2 s.heap.size) args s 0 0 A) (F0 m 50 ls []) := by
    intro  S3 H locs ls h hw hg t_o0 hl
    rw [f_X11_keepsAsked_50] at h
    refine lv_aload_n hx hb dX11_keepsAsked_50 rfl (lv_at hl 0 rfl) ?_
    refine lv_iconst (v := 1) hx hb dX11_keepsAsked_51 (by decide) ?_
    refine p_I E F hw t_o0 cf11 fk_X11_163 rfl (isB_nar rfl) (isB_fit rfl) dX11_keepsAsked_52 rfl (fun H locs hw => ?_)
    obtain rfl := Option.some.inj h
    exact r_V E hr hlk F hA hw hg dX11_keepsAsked_55
  rw [f_X11_keepsAsked] at h
  refine lv_iconst (v := 0) hx hb dX11_keepsAsked_0 (by decide) ?_
  refine lv_istore_n (lv' := [(2, .int (0 : Int32)), (0, .ref o0), (1, .int x1)]) hx hb dX11_keepsAsked_1 rfl hl (by decide) rfl (fun ls hl => ?_)
  obtain ⟨y11, hy11, h⟩ := bb h
  refine L2 o0 x1 fu (0 : Int32) S y11 hy11 _ _ _ hw (hg) t_o0 (lv_sub hl [1, 2, 0] rfl) (fun  S2 he H locs ls hw hG hl => ?_) (fun r he => ?_)
  · subst he
    have t_o0 := hG.t t_o0
    have hg := hg.tr hG
    exact J50  S2 _ _ _ h hw hg t_o0 (lv_sub hl [0] rfl)
  · subst he
    exact Option.some.inj h
def f_X11_endBy_b18 (o0 : Nat) (x1 : Int32) (x3 : Int32) (x4 : Int32) (S1 : PS) : Option ((Int32 × Int32 × PS) ⊕ ((Int32 × PS) ⊕ (Int32 × PS))) :=
  (if x1 ≤ x4 then some (.inr (.inr (x3, S1))) else (rk S1 (sR S1 o0 10) 13).bind fun b4 => if ib ((29 : Int32) + x4) (sN S1 b4) = true then (if 0 ≤ ((sI S1 b4 (Int32.toNatClampNeg ((29 : Int32) + x4))) - (2 : Int32)) then (rk S1 (sR S1 o0 25) 13).bind fun b6 => (f_X11_doesAt x4 ((sI S1 b4 (Int32.toNatClampNeg ((29 : Int32) + x4))) - (2 : Int32)) x3 S1).bind fun q7 => if ib q7.1 (sN q7.2 b6) = true then some (.inl ((sI q7.2 b6 (Int32.toNatClampNeg q7.1)), x4 + 1, q7.2)) else none else some (.inl (x3, x4 + 1, S1))) else none)
def f_X11_endBy_67 (z3 : Int32) (S3 : PS) : Option (Int32 × PS) :=
  some (z3, S3)
def f_X11_endBy (o0 : Nat) (x1 : Int32) (x2 : Int32) (S : PS) : Option (Int32 × PS) :=
  (f_X11_asksRow o0 x1 x2 S).bind fun q1 => (f_X11_find o0 q1.2).bind fun q2 => (f_X11_startOf o0 q2.2).bind fun q3 => (loopN (fun a => f_X11_endBy_b18 o0 x1 a.1 a.2.1 a.2.2) fu (q3.1, (0 : Int32), q3.2)).bind (Sum.elim (fun r => some r) (fun a => f_X11_endBy_67 a.1 a.2))
set_option maxHeartbeats 4000000 in
set_option maxRecDepth 100000 in
theorem k_X11_endBy (l : Launch) (D : va_G) (cy : Nat → ClassId) (kc : Nat → Nat) (o0 : Nat) (x1 : Int32) (x2 : Int32) (S : PS) {qq : Int32 × PS} (h : f_X11_endBy o0 x1 x2 S = some qq) (t_o0 : tD S o0 11) : KI l D cy kc yX11_endBy cX11_endBy 6 .int (rmK 10 372 0 0) [.ref o0, .int x1, .int x2] S qq.1 qq.2 := by
  refine K_body (Qc := QI D cy S qq.2 qq.1) (by decide) (Nat.le_of_ble_eq_true rfl) ?_
  intro p e s m below meth c A ls args E hr hlk hnm hA F hw hl
  have hx := E.1
  have hb := E.2.1
  have hl : lv_has ls 6 [(0, .ref o0), (1, .int x1), (2, .int x2)] := hl
  have hg : Gr S S := Gr.rf
  replace h : (f_X11_endBy o0 x1 x2 S).bind some = some qq := by rw [h]; rfl
  have L18 : ∀ (o0 : Nat) (x1 : Int32) (n : Nat) (x3 : Int32) (x4 : Int32) (S1 : PS) (o : (Int32 × PS) ⊕ (Int32 × PS)), loopN (fun a => f_X11_endBy_b18 o0 x1 a.1 a.2.1 a.2.2) n (x3, x4, S1) = some o → ∀ (H : Heap) (locs : List Loc) (ls : Array Slot), Wd D cy A s H locs S1 → Gr S S1 → tD S1 o0 11 → lv_has ls 6 [(0, .ref o0), (1, .int x1), (3, .int x3), (4, .int x4)] → (∀ (e0 : Int32) (S2 : PS), o = .inr (e0, S2) → ∀ (H : Heap) (locs : List Loc) (ls : Array Slot), Wd D cy A s H locs S2 → Gr S1 S2 → lv_has ls 6 [(3, .int e0)] → W p l e (rmK 10 372 0 0) s m args below meth c H locs 0 0 (MQ below (QI D cy S qq.2 qq.1 s.heap.size) args s 0 0 A) (F0 m 67 ls [])) → (∀ q9, o = .inl q9 → q9 = qq) → W p l e (rmK 10 372 0 0) s m args below meth c H locs 0 0 (MQ below (QI D cy S qq.2 qq.1 s.heap.size) args s 0 0 A) (F0 m 18 ls []) := by
    intro o0 x1 n
    induction n with
    | zero => intro x3 x4 S1 o h; exact absurd h (by simp [loopN])
    | succ n ih =>
      intro x3 x4 S1 o h H locs ls hw hG0 t_o0 hl hx2 hq2
      have hg : Gr S1 S1 := Gr.rf
      replace h : (f_X11_endBy_b18 o0 x1 x3 x4 S1).bind (Sum.elim (loopN (fun a => f_X11_endBy_b18 o0 x1 a.1 a.2.1 a.2.2) n) some) = some o := h
      rw [f_X11_endBy_b18] at h
      refine lv_iload hx hb dX11_endBy_18 (lv_at hl 3 rfl) ?_
      refine lv_iload_n hx hb dX11_endBy_20 rfl (lv_at hl 1 rfl) ?_
      refine lv_icmp_ge (tgt := 67) hx hb dX11_endBy_21 (by decide) (fun c10 => ?_) (fun c10 => ?_)
      · rw [if_pos c10] at h
        obtain rfl := Option.some.inj h
        exact hx2 x3 S1 rfl _ _ _ hw hg (lv_sub hl [2] rfl)
      · rw [if_neg c10] at h
        refine lv_aload_n hx hb dX11_endBy_24 rfl (lv_at hl 0 rfl) ?_
        obtain ⟨b4, r_b4, h⟩ := bb h
        obtain ⟨r_b4, t_b4⟩ := rk_some r_b4
        refine g_R E F hw t_o0 cf11 fk_X11_73 dX11_endBy_25 rfl r_b4 ?_
        refine lv_bipush (v := 29) hx hb dX11_endBy_28 (by decide) ?_
        refine lv_iload hx hb dX11_endBy_30 (lv_at hl 3 rfl) ?_
        refine lv_iadd hx hb dX11_endBy_32 ?_
        obtain ⟨c5, h⟩ := bg h
        refine a_i E F hw t_b4 c5 dX11_endBy_33 ?_
        refine lv_iconst (v := 2) hx hb dX11_endBy_34 (by decide) ?_
        refine lv_isub hx hb dX11_endBy_35 ?_
        refine lv_istore (lv' := [(5, .int ((sI S1 b4 (Int32.toNatClampNeg ((29 : Int32) + x4))) - (2 : Int32))), (0, .ref o0), (1, .int x1), (3, .int x3), (4, .int x4)]) hx hb dX11_endBy_36 hl (by decide) rfl (fun ls hl => ?_)
        refine lv_iload hx hb dX11_endBy_38 (lv_at hl 0 rfl) ?_
        refine lv_if_ge (tgt := 47) hx hb dX11_endBy_40 (by decide) (fun c9 => ?_) (fun c9 => ?_)
        · rw [if_pos c9] at h
          refine lv_aload_n hx hb dX11_endBy_47 rfl (lv_at hl 1 rfl) ?_
          obtain ⟨b6, r_b6, h⟩ := bb h
          obtain ⟨r_b6, t_b6⟩ := rk_some r_b6
          refine g_R E F hw t_o0 cf11 fk_X11_101 dX11_endBy_48 rfl r_b6 ?_
          refine lv_iload hx hb dX11_endBy_51 (lv_at hl 4 rfl) ?_
          refine lv_iload hx hb dX11_endBy_53 (lv_at hl 0 rfl) ?_
          refine lv_iload_n hx hb dX11_endBy_55 rfl (lv_at hl 3 rfl) ?_
          obtain ⟨q7, h_q7, h⟩ := bb h
          refine z_SI E F hw [.int x4, .int ((sI S1 b4 (Int32.toNatClampNeg ((29 : Int32) + x4))) - (2 : Int32)), .int x3] (k_X11_doesAt l D cy kc x4 ((sI S1 b4 (Int32.toNatClampNeg ((29 : Int32) + x4))) - (2 : Int32)) x3 S1 h_q7) mk_X11_doesAt sk_X11_doesAt ml_X11_400 ⟨by decide, by decide⟩ rfl hl.1 rfl (Nat.le_of_ble_eq_true rfl) dX11_endBy_56 ⟨Nat.zero_le _, Nat.zero_le _⟩ (fun H locs hw hG => ?_)
          have t_o0 := hG.t t_o0
          have t_b6 := hG.t t_b6
          have hg := hg.tr hG
          obtain ⟨c8, h⟩ := bg h
          refine a_i E F hw t_b6 c8 dX11_endBy_59 ?_
          refine lv_istore_n (lv' := [(3, .int (sI q7.2 b6 (Int32.toNatClampNeg q7.1))), (5, .int ((sI S1 b4 (Int32.toNatClampNeg ((29 : Int32) + x4))) - (2 : Int32))), (0, .ref o0), (1, .int x1), (4, .int x4)]) hx hb dX11_endBy_60 rfl hl (by decide) rfl (fun ls hl => ?_)
          refine lv_iinc (v := x4 + 1) (lv' := [(4, .int (x4 + 1)), (3, .int (sI q7.2 b6 (Int32.toNatClampNeg q7.1))), (5, .int ((sI S1 b4 (Int32.toNatClampNeg ((29 : Int32) + x4))) - (2 : Int32))), (0, .ref o0), (1, .int x1)]) hx hb dX11_endBy_61 hl (k := 4) rfl rfl (by decide) rfl (fun ls hl => ?_)
          refine lv_goto (tgt := 18) hx hb dX11_endBy_64 (by decide) ?_
          exact ih (sI q7.2 b6 (Int32.toNatClampNeg q7.1)) (x4 + 1) q7.2 _ h _ _ _ hw (hG0.tr hg) t_o0 (lv_sub hl [3, 4, 1, 0] rfl) (fun e0 S2 he H locs ls hw hG hl => hx2 e0 S2 he H locs ls hw (hg.tr hG) hl) hq2
        · rw [if_neg c9] at h
          refine lv_iload_n hx hb dX11_endBy_43 rfl (lv_at hl 3 rfl) ?_
          refine lv_goto (tgt := 60) hx hb dX11_endBy_44 (by decide) ?_
          refine lv_istore_n (lv' := [(3, .int x3), (5, .int ((sI S1 b4 (Int32.toNatClampNeg ((29 : Int32) + x4))) - (2 : Int32))), (0, .ref o0), (1, .int x1), (4, .int x4)]) hx hb dX11_endBy_60 rfl hl (by decide) rfl (fun ls hl => ?_)
          refine lv_iinc (v := x4 + 1) (lv' := [(4, .int (x4 + 1)), (3, .int x3), (5, .int ((sI S1 b4 (Int32.toNatClampNeg ((29 : Int32) + x4))) - (2 : Int32))), (0, .ref o0), (1, .int x1)]) hx hb dX11_endBy_61 hl (k := 4) rfl rfl (by decide) rfl (fun ls hl => ?_)
          refine lv_goto (tgt := 18) hx hb dX11_endBy_64 (by decide) ?_
          exact ih x3 (x4 + 1) S1 _ h _ _ _ hw (hG0.tr hg) t_o0 (lv_sub hl [3, 4, 1, 0] rfl) (fun e0 S2 he H locs ls hw hG hl => hx2 e0 S2 he H locs ls hw (hg.tr hG) hl) hq2
  have J67 : ∀ (z3 : Int32) (S3 : PS) (H : Heap) (locs : List Loc) (ls : Array Slot), (f_X11_endBy_67 z3 S3).bind some = some qq → Wd D cy A s H locs S3 → Gr S S3 → lv_has ls 6 [(3, .int z3)] → W p l e (rmK 10 372 0 0) s m args below meth c H locs 0 0 (MQ below (QI D cy S qq.2 qq.1 s.heap.size) args s 0 0 A) (F0 m 67 ls []) := by
    intro z3 S3 H locs ls h hw hg  hl
    rw [f_X11_endBy_67] at h
    refine lv_iload_n hx hb dX11_endBy_67 rfl (lv_at hl 0 rfl) ?_
    obtain rfl := Option.some.inj h
    exact r_I E hr hlk F hA hw hg dX11_endBy_68
  rw [f_X11_endBy] at h
  refine lv_aload_n hx hb dX11_endBy_0 rfl (lv_at hl 0 rfl) ?_
  refine lv_iload_n hx hb dX11_endBy_1 rfl (lv_at hl 1 rfl) ?_
  refine lv_iload_n hx hb dX11_endBy_2 rfl (lv_at hl 2 rfl) ?_
  obtain ⟨q1, h_q1, h⟩ := bb h
  refine z_VV E F hw [.int x1, .int x2] (k_X11_asksRow l D cy kc o0 x1 x2 S h_q1 t_o0) t_o0 cf11 mk_X11_asksRow vk_X11_asksRow ml_X11_539 ⟨by decide, by decide⟩ rfl hl.1 rfl (Nat.le_of_ble_eq_true rfl) dX11_endBy_3 ⟨Nat.zero_le _, Nat.zero_le _⟩ (fun H locs hw hG => ?_)
  have t_o0 := hG.t t_o0
  have hg := hg.tr hG
  refine lv_aload_n hx hb dX11_endBy_6 rfl (lv_at hl 0 rfl) ?_
  obtain ⟨q2, h_q2, h⟩ := bb h
  refine z_VV E F hw [] (k_X11_find l D cy kc o0 q1.2 h_q2 t_o0) t_o0 cf11 mk_X11_find vk_X11_find ml_X11_419 ⟨by decide, by decide⟩ rfl hl.1 rfl (Nat.le_of_ble_eq_true rfl) dX11_endBy_7 ⟨Nat.zero_le _, Nat.zero_le _⟩ (fun H locs hw hG => ?_)
  have t_o0 := hG.t t_o0
  have hg := hg.tr hG
  refine lv_aload_n hx hb dX11_endBy_10 rfl (lv_at hl 0 rfl) ?_
  obtain ⟨q3, h_q3, h⟩ := bb h
  refine z_VI E F hw [] (k_X11_startOf l D cy kc o0 q2.2 h_q3 t_o0) t_o0 cf11 mk_X11_startOf vk_X11_startOf ml_X11_453 ⟨by decide, by decide⟩ rfl hl.1 rfl (Nat.le_of_ble_eq_true rfl) dX11_endBy_11 ⟨Nat.zero_le _, Nat.zero_le _⟩ (fun H locs hw hG => ?_)
  have t_o0 := hG.t t_o0
  have hg := hg.tr hG
  refine lv_istore_n (lv' := [(3, .int q3.1), (0, .ref o0), (1, .int x1), (2, .int x2)]) hx hb dX11_endBy_14 rfl hl (by decide) rfl (fun ls hl => ?_)
  refine lv_iconst (v := 0) hx hb dX11_endBy_15 (by decide) ?_
  refine lv_istore (lv' := [(4, .int (0 : Int32)), (3, .int q3.1), (0, .ref o0), (1, .int x1), (2, .int x2)]) hx hb dX11_endBy_16 hl (by decide) rfl (fun ls hl => ?_)
  obtain ⟨y11, hy11, h⟩ := bb h
  refine L18 o0 x1 fu q3.1 (0 : Int32) q3.2 y11 hy11 _ _ _ hw (hg) t_o0 (lv_sub hl [2, 3, 1, 0] rfl) (fun e0 S2 he H locs ls hw hG hl => ?_) (fun r he => ?_)
  · subst he
    have hg := hg.tr hG
    exact J67 e0 S2 _ _ _ h hw hg  (lv_sub hl [0] rfl)
  · subst he
    exact Option.some.inj h
def f_X11_brought_b24 (o0 : Nat) (x1 : Int32) (x2 : Int32) (x3 : Int32) (S1 : PS) : Option ((Int32 × Int32 × PS) ⊕ ((Int32 × PS) ⊕ (Int32 × PS))) :=
  (f_X11_rowsOf o0 x1 S1).bind fun q3 => (if q3.1 ≤ x3 then some (.inr (.inr (x2, q3.2))) else (f_X11_endBy o0 x1 x3 q3.2).bind fun q4 => some (.inl ((x2 ||| ((1 : Int32) <<< (q4.1 &&& 31))), x3 + 1, q4.2)))
def f_X11_brought_b60 (x2 : Int32) (x3 : Int32) (x4 : Int32) (S1 : PS) : Option ((Int32 × Int32 × PS) ⊕ ((Int32 × PS) ⊕ (Int32 × PS))) :=
  (if (27 : Int32) ≤ x4 then some (.inr (.inr (x3, S1))) else some (.inl ((x3 + ((x2 >>> (x4 &&& 31)) &&& (1 : Int32))), x4 + 1, S1)))
def f_X11_brought_82 (z3 : Int32) (S3 : PS) : Option (Int32 × PS) :=
  some (z3, S3)
def f_X11_brought_50 (o0 : Nat) (z2 : Int32) (S3 : PS) : Option (Int32 × PS) :=
  (f_X11_keepsAsked o0 (1 : Int32) S3).bind fun q7 => (loopN (fun a => f_X11_brought_b60 z2 a.1 a.2.1 a.2.2) fu ((0 : Int32), (0 : Int32), q7.2)).bind (Sum.elim (fun r => some r) (fun a => f_X11_brought_82 a.1 a.2))
def f_X11_brought (o0 : Nat) (x1 : Int32) (S : PS) : Option (Int32 × PS) :=
  (f_X11_canBring o0 x1 (pI S o0 0 (0 : Int32))).bind fun q1 => (if q1.1 = 0 then some ((-1 : Int32), q1.2) else (f_X11_keepsAsked o0 (0 : Int32) q1.2).bind fun q2 => (loopN (fun a => f_X11_brought_b24 o0 x1 a.1 a.2.1 a.2.2) fu ((0 : Int32), (0 : Int32), q2.2)).bind (Sum.elim (fun r => some r) (fun a => f_X11_brought_50 o0 a.1 a.2)))
set_option maxHeartbeats 4000000 in
set_option maxRecDepth 100000 in
theorem k_X11_brought (l : Launch) (D : va_G) (cy : Nat → ClassId) (kc : Nat → Nat) (o0 : Nat) (x1 : Int32) (S : PS) {qq : Int32 × PS} (h : f_X11_brought o0 x1 S = some qq) (t_o0 : tD S o0 11) : KI l D cy kc yX11_brought cX11_brought 5 .int (rmK 11 413 0 0) [.ref o0, .int x1] S qq.1 qq.2 := by
  refine K_body (Qc := QI D cy S qq.2 qq.1) (by decide) (Nat.le_of_ble_eq_true rfl) ?_
  intro p e s m below meth c A ls args E hr hlk hnm hA F hw hl
  have hx := E.1
  have hb := E.2.1
  have hl : lv_has ls 5 [(0, .ref o0), (1, .int x1)] := hl
  have hg : Gr S S := Gr.rf
  replace h : (f_X11_brought o0 x1 S).bind some = some qq := by rw [h]; rfl
  have L24 : ∀ (o0 : Nat) (x1 : Int32) (n : Nat) (x2 : Int32) (x3 : Int32) (S1 : PS) (o : (Int32 × PS) ⊕ (Int32 × PS)), loopN (fun a => f_X11_brought_b24 o0 x1 a.1 a.2.1 a.2.2) n (x2, x3, S1) = some o → ∀ (H : Heap) (locs : List Loc) (ls : Array Slot), Wd D cy A s H locs S1 → Gr S S1 → tD S1 o0 11 → lv_has ls 5 [(0, .ref o0), (1, .int x1), (2, .int x2), (3, .int x3)] → (∀ (e0 : Int32) (S2 : PS), o = .inr (e0, S2) → ∀ (H : Heap) (locs : List Loc) (ls : Array Slot), Wd D cy A s H locs S2 → Gr S1 S2 → lv_has ls 5 [(0, .ref o0), (2, .int e0)] → W p l e (rmK 11 413 0 0) s m args below meth c H locs 0 0 (MQ below (QI D cy S qq.2 qq.1 s.heap.size) args s 0 0 A) (F0 m 50 ls [])) → (∀ q9, o = .inl q9 → q9 = qq) → W p l e (rmK 11 413 0 0) s m args below meth c H locs 0 0 (MQ below (QI D cy S qq.2 qq.1 s.heap.size) args s 0 0 A) (F0 m 24 ls []) := by
    intro o0 x1 n
    induction n with
    | zero => intro x2 x3 S1 o h; exact absurd h (by simp [loopN])
    | succ n ih =>
      intro x2 x3 S1 o h H locs ls hw hG0 t_o0 hl hx2 hq2
      have hg : Gr S1 S1 := Gr.rf
      replace h : (f_X11_brought_b24 o0 x1 x2 x3 S1).bind (Sum.elim (loopN (fun a => f_X11_brought_b24 o0 x1 a.1 a.2.1 a.2.2) n) some) = some o := h
      rw [f_X11_brought_b24] at h
      refine lv_iload_n hx hb dX11_brought_24 rfl (lv_at hl 3 rfl) ?_
      refine lv_aload_n hx hb dX11_brought_25 rfl (lv_at hl 0 rfl) ?_
      refine lv_iload_n hx hb dX11_brought_26 rfl (lv_at hl 1 rfl) ?_
      obtain ⟨q3, h_q3, h⟩ := bb h
      refine z_VI E F hw [.int x1] (k_X11_rowsOf l D cy kc o0 x1 S1 h_q3 t_o0) t_o0 cf11 mk_X11_rowsOf vk_X11_rowsOf ml_X11_549 ⟨by decide, by decide⟩ rfl hl.1 rfl (Nat.le_of_ble_eq_true rfl) dX11_brought_27 ⟨Nat.zero_le _, Nat.zero_le _⟩ (fun H locs hw hG => ?_)
      have t_o0 := hG.t t_o0
      have hg := hg.tr hG
      refine lv_icmp_ge (tgt := 50) hx hb dX11_brought_30 (by decide) (fun c5 => ?_) (fun c5 => ?_)
      · rw [if_pos c5] at h
        obtain rfl := Option.some.inj h
        exact hx2 x2 q3.2 rfl _ _ _ hw hg (lv_sub hl [0, 2] rfl)
      · rw [if_neg c5] at h
        refine lv_iload_n hx hb dX11_brought_33 rfl (lv_at hl 2 rfl) ?_
        refine lv_iconst (v := 1) hx hb dX11_brought_34 (by decide) ?_
        refine lv_aload_n hx hb dX11_brought_35 rfl (lv_at hl 0 rfl) ?_
        refine lv_iload_n hx hb dX11_brought_36 rfl (lv_at hl 1 rfl) ?_
        refine lv_iload_n hx hb dX11_brought_37 rfl (lv_at hl 3 rfl) ?_
        obtain ⟨q4, h_q4, h⟩ := bb h
        refine z_VI E F hw [.int x1, .int x3] (k_X11_endBy l D cy kc o0 x1 x3 q3.2 h_q4 t_o0) t_o0 cf11 mk_X11_endBy vk_X11_endBy ml_X11_552 ⟨by decide, by decide⟩ rfl hl.1 rfl (Nat.le_of_ble_eq_true rfl) dX11_brought_38 ⟨Nat.zero_le _, Nat.zero_le _⟩ (fun H locs hw hG => ?_)
        have t_o0 := hG.t t_o0
        have hg := hg.tr hG
        refine lv_ishl hx hb dX11_brought_41 ?_
        refine lv_ior hx hb dX11_brought_42 ?_
        refine lv_istore_n (lv' := [(2, .int (x2 ||| ((1 : Int32) <<< (q4.1 &&& 31)))), (0, .ref o0), (1, .int x1), (3, .int x3)]) hx hb dX11_brought_43 rfl hl (by decide) rfl (fun ls hl => ?_)
        refine lv_iinc (v := x3 + 1) (lv' := [(3, .int (x3 + 1)), (2, .int (x2 ||| ((1 : Int32) <<< (q4.1 &&& 31)))), (0, .ref o0), (1, .int x1)]) hx hb dX11_brought_44 hl (k := 3) rfl rfl (by decide) rfl (fun ls hl => ?_)
        refine lv_goto (tgt := 24) hx hb dX11_brought_47 (by decide) ?_
        exact ih (x2 ||| ((1 : Int32) <<< (q4.1 &&& 31))) (x3 + 1) q4.2 _ h _ _ _ hw (hG0.tr hg) t_o0 (lv_sub hl [2, 3, 1, 0] rfl) (fun e0 S2 he H locs ls hw hG hl => hx2 e0 S2 he H locs ls hw (hg.tr hG) hl) hq2
  have L60 : ∀ (x2 : Int32) (n : Nat) (x3 : Int32) (x4 : Int32) (S1 : PS) (o : (Int32 × PS) ⊕ (Int32 × PS)), loopN (fun a => f_X11_brought_b60 x2 a.1 a.2.1 a.2.2) n (x3, x4, S1) = some o → ∀ (H : Heap) (locs : List Loc) (ls : Array Slot), Wd D cy A s H locs S1 → Gr S S1 → lv_has ls 5 [(2, .int x2), (3, .int x3), (4, .int x4)] → (∀ (e0 : Int32) (S2 : PS), o = .inr (e0, S2) → ∀ (H : Heap) (locs : List Loc) (ls : Array Slot), Wd D cy A s H locs S2 → Gr S1 S2 → lv_has ls 5 [(3, .int e0)] → W p l e (rmK 11 413 0 0) s m args below meth c H locs 0 0 (MQ below (QI D cy S qq.2 qq.1 s.heap.size) args s 0 0 A) (F0 m 82 ls [])) → (∀ q9, o = .inl q9 → q9 = qq) → W p l e (rmK 11 413 0 0) s m args below meth c H locs 0 0 (MQ below (QI D cy S qq.2 qq.1 s.heap.size) args s 0 0 A) (F0 m 60 ls []) := by
    intro x2 n
    induction n with
    | zero => intro x3 x4 S1 o h; exact absurd h (by simp [loopN])
    | succ n ih =>
      intro x3 x4 S1 o h H locs ls hw hG0  hl hx2 hq2
      have hg : Gr S1 S1 := Gr.rf
      replace h : (f_X11_brought_b60 x2 x3 x4 S1).bind (Sum.elim (loopN (fun a => f_X11_brought_b60 x2 a.1 a.2.1 a.2.2) n) some) = some o := h
      rw [f_X11_brought_b60] at h
      refine lv_iload hx hb dX11_brought_60 (lv_at hl 2 rfl) ?_
      refine lv_bipush (v := 27) hx hb dX11_brought_62 (by decide) ?_
      refine lv_icmp_ge (tgt := 82) hx hb dX11_brought_64 (by decide) (fun c8 => ?_) (fun c8 => ?_)
      · rw [if_pos c8] at h
        obtain rfl := Option.some.inj h
        exact hx2 x3 S1 rfl _ _ _ hw hg (lv_sub hl [1] rfl)
      · rw [if_neg c8] at h
        refine lv_iload_n hx hb dX11_brought_67 rfl (lv_at hl 1 rfl) ?_
        refine lv_iload_n hx hb dX11_brought_68 rfl (lv_at hl 0 rfl) ?_
        refine lv_iload hx hb dX11_brought_69 (lv_at hl 2 rfl) ?_
        refine lv_ishr hx hb dX11_brought_71 ?_
        refine lv_iconst (v := 1) hx hb dX11_brought_72 (by decide) ?_
        refine lv_iand hx hb dX11_brought_73 ?_
        refine lv_iadd hx hb dX11_brought_74 ?_
        refine lv_istore_n (lv' := [(3, .int (x3 + ((x2 >>> (x4 &&& 31)) &&& (1 : Int32)))), (2, .int x2), (4, .int x4)]) hx hb dX11_brought_75 rfl hl (by decide) rfl (fun ls hl => ?_)
        refine lv_iinc (v := x4 + 1) (lv' := [(4, .int (x4 + 1)), (3, .int (x3 + ((x2 >>> (x4 &&& 31)) &&& (1 : Int32)))), (2, .int x2)]) hx hb dX11_brought_76 hl (k := 2) rfl rfl (by decide) rfl (fun ls hl => ?_)
        refine lv_goto (tgt := 60) hx hb dX11_brought_79 (by decide) ?_
        exact ih (x3 + ((x2 >>> (x4 &&& 31)) &&& (1 : Int32))) (x4 + 1) S1 _ h _ _ _ hw (hG0.tr hg)  (lv_sub hl [2, 1, 0] rfl) (fun e0 S2 he H locs ls hw hG hl => hx2 e0 S2 he H locs ls hw (hg.tr hG) hl) hq2
  have J82 : ∀ (z3 : Int32) (S3 : PS) (H : Heap) (locs : List Loc) (ls : Array Slot), (f_X11_brought_82 z3 S3).bind some = some qq → Wd D cy A s H locs S3 → Gr S S3 → lv_has ls 5 [(3, .int z3)] → W p l e (rmK 11 413 0 0) s m args below meth c H locs 0 0 (MQ below (QI D cy S qq.2 qq.1 s.heap.size) args s 0 0 A) (F0 m 82 ls []) := by
    intro z3 S3 H locs ls h hw hg  hl
    rw [f_X11_brought_82] at h
    refine lv_iload_n hx hb dX11_brought_82 rfl (lv_at hl 0 rfl) ?_
    obtain rfl := Option.some.inj h
    exact r_I E hr hlk F hA hw hg dX11_brought_83
  have J50 : ∀ (z2 : Int32) (S3 : PS) (H : Heap) (locs : List Loc) (ls : Array Slot), (f_X11_brought_50 o0 z2 S3).bind some = some qq → Wd D cy A s H locs S3 → Gr S S3 → tD S3 o0 11 → lv_has ls 5 [(0, .ref o0), (2, .int z2)] → W p l e (rmK 11 413 0 0) s m args below meth c H locs 0 0 (MQ below (QI D cy S qq.2 qq.1 s.heap.size) args s 0 0 A) (F0 m 50 ls []) := by
    intro z2 S3 H locs ls h hw hg t_o0 hl
    rw [f_X11_brought_50] at h
    refine lv_aload_n hx hb dX11_brought_50 rfl (lv_at hl 0 rfl) ?_
    refine lv_iconst (v := 1) hx hb dX11_brought_51 (by decide) ?_
    obtain ⟨q7, h_q7, h⟩ := bb h
    refine z_VV E F hw [.int (1 : Int32)] (k_X11_keepsAsked l D cy kc o0 (1 : Int32) S3 h_q7 t_o0) t_o0 cf11 mk_X11_keepsAsked vk_X11_keepsAsked ml_X11_545 ⟨by decide, by decide⟩ rfl hl.1 rfl (Nat.le_of_ble_eq_true rfl) dX11_brought_52 ⟨Nat.zero_le _, Nat.zero_le _⟩ (fun H locs hw hG => ?_)
    have t_o0 := hG.t t_o0
    have hg := hg.tr hG
    refine lv_iconst (v := 0) hx hb dX11_brought_55 (by decide) ?_
    refine lv_istore_n (lv' := [(3, .int (0 : Int32)), (0, .ref o0), (2, .int z2)]) hx hb dX11_brought_56 rfl hl (by decide) rfl (fun ls hl => ?_)
    refine lv_iconst (v := 0) hx hb dX11_brought_57 (by decide) ?_
    refine lv_istore (lv' := [(4, .int (0 : Int32)), (3, .int (0 : Int32)), (0, .ref o0), (2, .int z2)]) hx hb dX11_brought_58 hl (by decide) rfl (fun ls hl => ?_)
    obtain ⟨y9, hy9, h⟩ := bb h
    refine L60 z2 fu (0 : Int32) (0 : Int32) q7.2 y9 hy9 _ _ _ hw (hg)  (lv_sub hl [3, 1, 0] rfl) (fun e0 S2 he H locs ls hw hG hl => ?_) (fun r he => ?_)
    · subst he
      have hg := hg.tr hG
      exact J82 e0 S2 _ _ _ h hw hg  (lv_sub hl [0] rfl)
    · subst he
      exact Option.some.inj h
  rw [f_X11_brought] at h
  refine lv_aload_n hx hb dX11_brought_0 rfl (lv_at hl 0 rfl) ?_
  refine lv_iconst (v := 0) hx hb dX11_brought_1 (by decide) ?_
  refine p_I E F hw t_o0 cf11 fk_X11_1 rfl rfl rfl dX11_brought_2 rfl (fun H locs hw => ?_)
  refine lv_aload_n hx hb dX11_brought_5 rfl (lv_at hl 0 rfl) ?_
  refine lv_iload_n hx hb dX11_brought_6 rfl (lv_at hl 1 rfl) ?_
  obtain ⟨q1, h_q1, h⟩ := bb h
  refine z_VI E F hw [.int x1] (k_X11_canBring l D cy kc o0 x1 (pI S o0 0 (0 : Int32)) h_q1 t_o0) t_o0 cf11 mk_X11_canBring vk_X11_canBring ml_X11_542 ⟨by decide, by decide⟩ rfl hl.1 rfl (Nat.le_of_ble_eq_true rfl) dX11_brought_7 ⟨Nat.zero_le _, Nat.zero_le _⟩ (fun H locs hw hG => ?_)
  have t_o0 := hG.t t_o0
  have hg := hg.tr hG
  refine lv_if_ne (tgt := 15) hx hb dX11_brought_10 (by decide) (fun c10 => ?_) (fun c10 => ?_)
  · rw [if_neg c10] at h
    refine lv_aload_n hx hb dX11_brought_15 rfl (lv_at hl 0 rfl) ?_
    refine lv_iconst (v := 0) hx hb dX11_brought_16 (by decide) ?_
    obtain ⟨q2, h_q2, h⟩ := bb h
    refine z_VV E F hw [.int (0 : Int32)] (k_X11_keepsAsked l D cy kc o0 (0 : Int32) q1.2 h_q2 t_o0) t_o0 cf11 mk_X11_keepsAsked vk_X11_keepsAsked ml_X11_545 ⟨by decide, by decide⟩ rfl hl.1 rfl (Nat.le_of_ble_eq_true rfl) dX11_brought_17 ⟨Nat.zero_le _, Nat.zero_le _⟩ (fun H locs hw hG => ?_)
    have t_o0 := hG.t t_o0
    have hg := hg.tr hG
    refine lv_iconst (v := 0) hx hb dX11_brought_20 (by decide) ?_
    refine lv_istore_n (lv' := [(2, .int (0 : Int32)), (0, .ref o0), (1, .int x1)]) hx hb dX11_brought_21 rfl hl (by decide) rfl (fun ls hl => ?_)
    refine lv_iconst (v := 0) hx hb dX11_brought_22 (by decide) ?_
    refine lv_istore_n (lv' := [(3, .int (0 : Int32)), (2, .int (0 : Int32)), (0, .ref o0), (1, .int x1)]) hx hb dX11_brought_23 rfl hl (by decide) rfl (fun ls hl => ?_)
    obtain ⟨y6, hy6, h⟩ := bb h
    refine L24 o0 x1 fu (0 : Int32) (0 : Int32) q2.2 y6 hy6 _ _ _ hw (hg) t_o0 (lv_sub hl [2, 3, 1, 0] rfl) (fun e0 S2 he H locs ls hw hG hl => ?_) (fun r he => ?_)
    · subst he
      have t_o0 := hG.t t_o0
      have hg := hg.tr hG
      exact J50 e0 S2 _ _ _ h hw hg t_o0 (lv_sub hl [0, 1] rfl)
    · subst he
      exact Option.some.inj h
  · rw [if_pos c10] at h
    refine lv_iconst (v := (-1)) hx hb dX11_brought_13 (by decide) ?_
    obtain rfl := Option.some.inj h
    exact r_I E hr hlk F hA hw hg dX11_brought_14
def f_X11_rowFor_b33 (o0 : Nat) (x1 : Int32) (x2 : Int32) (x3 : Int32) (x4 : Int32) (S1 : PS) : Option ((Int32 × Int32 × PS) ⊕ ((Int32 × PS) ⊕ (Int32 × PS))) :=
  (f_X11_rowsOf o0 x1 S1).bind fun q4 => (if q4.1 ≤ x4 then some (.inr (.inr (x3, q4.2))) else (if 0 ≤ x3 then some (.inr (.inr (x3, q4.2))) else (f_X11_endBy o0 x1 x4 q4.2).bind fun q5 => (if q5.1 = x2 then some (.inl (x4, x4 + 1, q5.2)) else some (.inl ((-1 : Int32), x4 + 1, q5.2)))))
def f_X11_rowFor_71 (o0 : Nat) (z3 : Int32) (S3 : PS) : Option (Int32 × PS) :=
  (f_X11_keepsAsked o0 (1 : Int32) S3).bind fun q10 => some (z3, q10.2)
def f_X11_rowFor (o0 : Nat) (x1 : Int32) (x2 : Int32) (S : PS) : Option (Int32 × PS) :=
  (f_X11_canBring o0 x1 (pI S o0 0 (0 : Int32))).bind fun q1 => (if q1.1 = 0 then some ((-1 : Int32), q1.2) else (f_X11_isStands o0 x2 q1.2).bind fun q2 => (if q2.1 = 0 then some ((-1 : Int32), q2.2) else (f_X11_keepsAsked o0 (0 : Int32) q2.2).bind fun q3 => (loopN (fun a => f_X11_rowFor_b33 o0 x1 x2 a.1 a.2.1 a.2.2) fu ((-1 : Int32), (0 : Int32), q3.2)).bind (Sum.elim (fun r => some r) (fun a => f_X11_rowFor_71 o0 a.1 a.2))))
set_option maxHeartbeats 4000000 in
set_option maxRecDepth 100000 in
theorem k_X11_rowFor (l : Launch) (D : va_G) (cy : Nat → ClassId) (kc : Nat → Nat) (o0 : Nat) (x1 : Int32) (x2 : Int32) (S : PS) {qq : Int32 × PS} (h : f_X11_rowFor o0 x1 x2 S = some qq) (t_o0 : tD S o0 11) : KI l D cy kc yX11_rowFor cX11_rowFor 5 .int (rmK 11 413 0 0) [.ref o0, .int x1, .int x2] S qq.1 qq.2 := by
  refine K_body (Qc := QI D cy S qq.2 qq.1) (by decide) (Nat.le_of_ble_eq_true rfl) ?_
  intro p e s m below meth c A ls args E hr hlk hnm hA F hw hl
  have hx := E.1
  have hb := E.2.1
  have hl : lv_has ls 5 [(0, .ref o0), (1, .int x1), (2, .int x2)] := hl
  have hg : Gr S S := Gr.rf
  replace h : (f_X11_rowFor o0 x1 x2 S).bind some = some qq := by rw [h]; rfl
  have L33 : ∀ (o0 : Nat) (x1 : Int32) (x2 : Int32) (n : Nat) (x3 : Int32) (x4 : Int32) (S1 : PS) (o : (Int32 × PS) ⊕ (Int32 × PS)), loopN (fun a => f_X11_rowFor_b33 o0 x1 x2 a.1 a.2.1 a.2.2) n (x3, x4, S1) = some o → ∀ (H : Heap) (locs : List Loc) (ls : Array Slot), Wd D cy A s H locs S1 → Gr S S1 → tD S1 o0 11 → lv_has ls 5 [(0, .ref o0), (1, .int x1), (2, .int x2), (3, .int x3), (4, .int x4)] → (∀ (e0 : Int32) (S2 : PS), o = .inr (e0, S2) → ∀ (H : Heap) (locs : List Loc) (ls : Array Slot), Wd D cy A s H locs S2 → Gr S1 S2 → lv_has ls 5 [(0, .ref o0), (3, .int e0)] → W p l e (rmK 11 413 0 0) s m args below meth c H locs 0 0 (MQ below (QI D cy S qq.2 qq.1 s.heap.size) args s 0 0 A) (F0 m 71 ls [])) → (∀ q9, o = .inl q9 → q9 = qq) → W p l e (rmK 11 413 0 0) s m args below meth c H locs 0 0 (MQ below (QI D cy S qq.2 qq.1 s.heap.size) args s 0 0 A) (F0 m 33 ls []) := by
    intro o0 x1 x2 n
    induction n with
    | zero => intro x3 x4 S1 o h; exact absurd h (by simp [loopN])
    | succ n ih =>
      intro x3 x4 S1 o h H locs ls hw hG0 t_o0 hl hx2 hq2
      have hg : Gr S1 S1 := Gr.rf
      replace h : (f_X11_rowFor_b33 o0 x1 x2 x3 x4 S1).bind (Sum.elim (loopN (fun a => f_X11_rowFor_b33 o0 x1 x2 a.1 a.2.1 a.2.2) n) some) = some o := h
      rw [f_X11_rowFor_b33] at h
      refine lv_iload hx hb dX11_rowFor_33 (lv_at hl 4 rfl) ?_
      refine lv_aload_n hx hb dX11_rowFor_35 rfl (lv_at hl 0 rfl) ?_
      refine lv_iload_n hx hb dX11_rowFor_36 rfl (lv_at hl 1 rfl) ?_
      obtain ⟨q4, h_q4, h⟩ := bb h
      refine z_VI E F hw [.int x1] (k_X11_rowsOf l D cy kc o0 x1 S1 h_q4 t_o0) t_o0 cf11 mk_X11_rowsOf vk_X11_rowsOf ml_X11_549 ⟨by decide, by decide⟩ rfl hl.1 rfl (Nat.le_of_ble_eq_true rfl) dX11_rowFor_37 ⟨Nat.zero_le _, Nat.zero_le _⟩ (fun H locs hw hG => ?_)
      have t_o0 := hG.t t_o0
      have hg := hg.tr hG
      refine lv_icmp_ge (tgt := 71) hx hb dX11_rowFor_40 (by decide) (fun c8 => ?_) (fun c8 => ?_)
      · rw [if_pos c8] at h
        obtain rfl := Option.some.inj h
        exact hx2 x3 q4.2 rfl _ _ _ hw hg (lv_sub hl [0, 3] rfl)
      · rw [if_neg c8] at h
        refine lv_iload_n hx hb dX11_rowFor_43 rfl (lv_at hl 3 rfl) ?_
        refine lv_if_ge (tgt := 71) hx hb dX11_rowFor_44 (by decide) (fun c7 => ?_) (fun c7 => ?_)
        · rw [if_pos c7] at h
          obtain rfl := Option.some.inj h
          exact hx2 x3 q4.2 rfl _ _ _ hw hg (lv_sub hl [0, 3] rfl)
        · rw [if_neg c7] at h
          refine lv_aload_n hx hb dX11_rowFor_47 rfl (lv_at hl 0 rfl) ?_
          refine lv_iload_n hx hb dX11_rowFor_48 rfl (lv_at hl 1 rfl) ?_
          refine lv_iload hx hb dX11_rowFor_49 (lv_at hl 4 rfl) ?_
          obtain ⟨q5, h_q5, h⟩ := bb h
          refine z_VI E F hw [.int x1, .int x4] (k_X11_endBy l D cy kc o0 x1 x4 q4.2 h_q5 t_o0) t_o0 cf11 mk_X11_endBy vk_X11_endBy ml_X11_552 ⟨by decide, by decide⟩ rfl hl.1 rfl (Nat.le_of_ble_eq_true rfl) dX11_rowFor_51 ⟨Nat.zero_le _, Nat.zero_le _⟩ (fun H locs hw hG => ?_)
          have t_o0 := hG.t t_o0
          have hg := hg.tr hG
          refine lv_iload_n hx hb dX11_rowFor_54 rfl (lv_at hl 2 rfl) ?_
          refine lv_icmp_ne (tgt := 63) hx hb dX11_rowFor_55 (by decide) (fun c6 => ?_) (fun c6 => ?_)
          · rw [if_neg c6] at h
            refine lv_iconst (v := (-1)) hx hb dX11_rowFor_63 (by decide) ?_
            refine lv_istore_n (lv' := [(3, .int (-1 : Int32)), (0, .ref o0), (1, .int x1), (2, .int x2), (4, .int x4)]) hx hb dX11_rowFor_64 rfl hl (by decide) rfl (fun ls hl => ?_)
            refine lv_iinc (v := x4 + 1) (lv' := [(4, .int (x4 + 1)), (3, .int (-1 : Int32)), (0, .ref o0), (1, .int x1), (2, .int x2)]) hx hb dX11_rowFor_65 hl (k := 4) rfl rfl (by decide) rfl (fun ls hl => ?_)
            refine lv_goto (tgt := 33) hx hb dX11_rowFor_68 (by decide) ?_
            exact ih (-1 : Int32) (x4 + 1) q5.2 _ h _ _ _ hw (hG0.tr hg) t_o0 (lv_sub hl [2, 3, 4, 1, 0] rfl) (fun e0 S2 he H locs ls hw hG hl => hx2 e0 S2 he H locs ls hw (hg.tr hG) hl) hq2
          · rw [if_pos c6] at h
            refine lv_iload hx hb dX11_rowFor_58 (lv_at hl 4 rfl) ?_
            refine lv_goto (tgt := 64) hx hb dX11_rowFor_60 (by decide) ?_
            refine lv_istore_n (lv' := [(3, .int x4), (0, .ref o0), (1, .int x1), (2, .int x2), (4, .int x4)]) hx hb dX11_rowFor_64 rfl hl (by decide) rfl (fun ls hl => ?_)
            refine lv_iinc (v := x4 + 1) (lv' := [(4, .int (x4 + 1)), (3, .int x4), (0, .ref o0), (1, .int x1), (2, .int x2)]) hx hb dX11_rowFor_65 hl (k := 4) rfl rfl (by decide) rfl (fun ls hl => ?_)
            refine lv_goto (tgt := 33) hx hb dX11_rowFor_68 (by decide) ?_
            exact ih x4 (x4 + 1) q5.2 _ h _ _ _ hw (hG0.tr hg) t_o0 (lv_sub hl [2, 3, 4, 1, 0] rfl) (fun e0 S2 he H locs ls hw hG hl => hx2 e0 S2 he H locs ls hw (hg.tr hG) hl) hq2
  have J71 : ∀ (z3 : Int32) (S3 : PS) (H : Heap) (locs : List Loc) (ls : Array Slot), (f_X11_rowFor_71 o0 z3 S3).bind some = some qq → Wd D cy A s H locs S3 → Gr S S3 → tD S3 o0 11 → lv_has ls 5 [(0, .ref o0), (3, .int z3)] → W p l e (rmK 11 413 0 0) s m args below meth c H locs 0 0 (MQ below (QI D cy S qq.2 qq.1 s.heap.size) args s 0 0 A) (F0 m 71 ls []) := by
    intro z3 S3 H locs ls h hw hg t_o0 hl
    rw [f_X11_rowFor_71] at h
    refine lv_aload_n hx hb dX11_rowFor_71 rfl (lv_at hl 0 rfl) ?_
    refine lv_iconst (v := 1) hx hb dX11_rowFor_72 (by decide) ?_
    obtain ⟨q10, h_q10, h⟩ := bb h
    refine z_VV E F hw [.int (1 : Int32)] (k_X11_keepsAsked l D cy kc o0 (1 : Int32) S3 h_q10 t_o0) t_o0 cf11 mk_X11_keepsAsked vk_X11_keepsAsked ml_X11_545 ⟨by decide, by decide⟩ rfl hl.1 rfl (Nat.le_of_ble_eq_true rfl) dX11_rowFor_73 ⟨Nat.zero_le _, Nat.zero_le _⟩ (fun H locs hw hG => ?_)
    have t_o0 := hG.t t_o0
    have hg := hg.tr hG
    refine lv_iload_n hx hb dX11_rowFor_76 rfl (lv_at hl 1 rfl) ?_
    obtain rfl := Option.some.inj h
    exact r_I E hr hlk F hA hw hg dX11_rowFor_77
  rw [f_X11_rowFor] at h
  refine lv_aload_n hx hb dX11_rowFor_0 rfl (lv_at hl 0 rfl) ?_
  refine lv_iconst (v := 0) hx hb dX11_rowFor_1 (by decide) ?_
  refine p_I E F hw t_o0 cf11 fk_X11_1 rfl rfl rfl dX11_rowFor_2 rfl (fun H locs hw => ?_)
  refine lv_aload_n hx hb dX11_rowFor_5 rfl (lv_at hl 0 rfl) ?_
  refine lv_iload_n hx hb dX11_rowFor_6 rfl (lv_at hl 1 rfl) ?_
  obtain ⟨q1, h_q1, h⟩ := bb h
  refine z_VI E F hw [.int x1] (k_X11_canBring l D cy kc o0 x1 (pI S o0 0 (0 : Int32)) h_q1 t_o0) t_o0 cf11 mk_X11_canBring vk_X11_canBring ml_X11_542 ⟨by decide, by decide⟩ rfl hl.1 rfl (Nat.le_of_ble_eq_true rfl) dX11_rowFor_7 ⟨Nat.zero_le _, Nat.zero_le _⟩ (fun H locs hw hG => ?_)
  have t_o0 := hG.t t_o0
  have hg := hg.tr hG
  refine lv_if_eq (tgt := 21) hx hb dX11_rowFor_10 (by decide) (fun c12 => ?_) (fun c12 => ?_)
  · rw [if_pos c12] at h
    refine lv_iconst (v := (-1)) hx hb dX11_rowFor_21 (by decide) ?_
    obtain rfl := Option.some.inj h
    exact r_I E hr hlk F hA hw hg dX11_rowFor_22
  · rw [if_neg c12] at h
    refine lv_aload_n hx hb dX11_rowFor_13 rfl (lv_at hl 0 rfl) ?_
    refine lv_iload_n hx hb dX11_rowFor_14 rfl (lv_at hl 2 rfl) ?_
    obtain ⟨q2, h_q2, h⟩ := bb h
    refine z_VI E F hw [.int x2] (k_X11_isStands l D cy kc o0 x2 q1.2 h_q2 t_o0) t_o0 cf11 mk_X11_isStands vk_X11_isStands ml_X11_341 ⟨by decide, by decide⟩ rfl hl.1 rfl (Nat.le_of_ble_eq_true rfl) dX11_rowFor_15 ⟨Nat.zero_le _, Nat.zero_le _⟩ (fun H locs hw hG => ?_)
    have t_o0 := hG.t t_o0
    have hg := hg.tr hG
    refine lv_if_ne (tgt := 23) hx hb dX11_rowFor_18 (by decide) (fun c11 => ?_) (fun c11 => ?_)
    · rw [if_neg c11] at h
      refine lv_aload_n hx hb dX11_rowFor_23 rfl (lv_at hl 0 rfl) ?_
      refine lv_iconst (v := 0) hx hb dX11_rowFor_24 (by decide) ?_
      obtain ⟨q3, h_q3, h⟩ := bb h
      refine z_VV E F hw [.int (0 : Int32)] (k_X11_keepsAsked l D cy kc o0 (0 : Int32) q2.2 h_q3 t_o0) t_o0 cf11 mk_X11_keepsAsked vk_X11_keepsAsked ml_X11_545 ⟨by decide, by decide⟩ rfl hl.1 rfl (Nat.le_of_ble_eq_true rfl) dX11_rowFor_25 ⟨Nat.zero_le _, Nat.zero_le _⟩ (fun H locs hw hG => ?_)
      have t_o0 := hG.t t_o0
      have hg := hg.tr hG
      refine lv_iconst (v := (-1)) hx hb dX11_rowFor_28 (by decide) ?_
      refine lv_istore_n (lv' := [(3, .int (-1 : Int32)), (0, .ref o0), (1, .int x1), (2, .int x2)]) hx hb dX11_rowFor_29 rfl hl (by decide) rfl (fun ls hl => ?_)
      refine lv_iconst (v := 0) hx hb dX11_rowFor_30 (by decide) ?_
      refine lv_istore (lv' := [(4, .int (0 : Int32)), (3, .int (-1 : Int32)), (0, .ref o0), (1, .int x1), (2, .int x2)]) hx hb dX11_rowFor_31 hl (by decide) rfl (fun ls hl => ?_)
      obtain ⟨y9, hy9, h⟩ := bb h
      refine L33 o0 x1 x2 fu (-1 : Int32) (0 : Int32) q3.2 y9 hy9 _ _ _ hw (hg) t_o0 (lv_sub hl [2, 3, 4, 1, 0] rfl) (fun e0 S2 he H locs ls hw hG hl => ?_) (fun r he => ?_)
      · subst he
        have t_o0 := hG.t t_o0
        have hg := hg.tr hG
        exact J71 e0 S2 _ _ _ h hw hg t_o0 (lv_sub hl [0, 1] rfl)
      · subst he
        exact Option.some.inj h
    · rw [if_pos c11] at h
      refine lv_iconst (v := (-1)) hx hb dX11_rowFor_21 (by decide) ?_
      obtain rfl := Option.some.inj h
      exact r_I E hr hlk F hA hw hg dX11_rowFor_22
def f_X11_bestRow_77b36 (o0 : Nat) (x1 : Int32) (x2 : Int32) (z6 : Int32) (z7 : Int64) (S3 : PS) : Option ((Int32 × Int64 × Int32 × PS) ⊕ ((Int32 × PS) ⊕ (Int32 × PS))) :=
  some (.inl (z6, z7, z6 + 1, S3))
def f_X11_bestRow_b36 (o0 : Nat) (x1 : Int32) (x2 : Int32) (x3 : Int32) (x4 : Int64) (x6 : Int32) (S1 : PS) : Option ((Int32 × Int64 × Int32 × PS) ⊕ ((Int32 × PS) ⊕ (Int32 × PS))) :=
  (f_X11_rowsOf o0 x1 S1).bind fun q4 => (if q4.1 ≤ x6 then some (.inr (.inr (x3, q4.2))) else (f_X11_asksRow o0 x1 x6 q4.2).bind fun q5 => (f_X11_startOf o0 q5.2).bind fun q6 => (f_X11_valueNow o0 (0 : Int32) x2 q6.1 q6.2).bind fun q7 => (if x3 < 0 then f_X11_bestRow_77b36 o0 x1 x2 x6 q7.1 q7.2 else (if (lg_cmp q7.1 x4) ≤ 0 then some (.inl (x3, x4, x6 + 1, q7.2)) else f_X11_bestRow_77b36 o0 x1 x2 x6 q7.1 q7.2)))
def f_X11_bestRow_90 (o0 : Nat) (z3 : Int32) (S3 : PS) : Option (Int32 × PS) :=
  (f_X11_keepsAsked o0 (1 : Int32) S3).bind fun q12 => some (z3, q12.2)
def f_X11_bestRow (o0 : Nat) (x1 : Int32) (x2 : Int32) (S : PS) : Option (Int32 × PS) :=
  (f_X11_canBring o0 x1 (pI S o0 0 (0 : Int32))).bind fun q1 => (if q1.1 = 0 then some ((-1 : Int32), q1.2) else (f_X11_isSort o0 x2 q1.2).bind fun q2 => (if q2.1 = 0 then some ((-1 : Int32), q2.2) else (f_X11_keepsAsked o0 (0 : Int32) q2.2).bind fun q3 => (loopN (fun a => f_X11_bestRow_b36 o0 x1 x2 a.1 a.2.1 a.2.2.1 a.2.2.2) fu ((-1 : Int32), (0 : Int64), (0 : Int32), q3.2)).bind (Sum.elim (fun r => some r) (fun a => f_X11_bestRow_90 o0 a.1 a.2))))
set_option maxHeartbeats 4000000 in
set_option maxRecDepth 100000 in
theorem k_X11_bestRow (l : Launch) (D : va_G) (cy : Nat → ClassId) (kc : Nat → Nat) (o0 : Nat) (x1 : Int32) (x2 : Int32) (S : PS) {qq : Int32 × PS} (h : f_X11_bestRow o0 x1 x2 S = some qq) (t_o0 : tD S o0 11) : KI l D cy kc yX11_bestRow cX11_bestRow 9 .int (rmK 11 411 0 0) [.ref o0, .int x1, .int x2] S qq.1 qq.2 := by
  refine K_body (Qc := QI D cy S qq.2 qq.1) (by decide) (Nat.le_of_ble_eq_true rfl) ?_
  intro p e s m below meth c A ls args E hr hlk hnm hA F hw hl
  have hx := E.1
  have hb := E.2.1
  have hl : lv_has ls 9 [(0, .ref o0), (1, .int x1), (2, .int x2)] := hl
  have hg : Gr S S := Gr.rf
  replace h : (f_X11_bestRow o0 x1 x2 S).bind some = some qq := by rw [h]; rfl
  have L36 : ∀ (o0 : Nat) (x1 : Int32) (x2 : Int32) (n : Nat) (x3 : Int32) (x4 : Int64) (x6 : Int32) (S1 : PS) (o : (Int32 × PS) ⊕ (Int32 × PS)), loopN (fun a => f_X11_bestRow_b36 o0 x1 x2 a.1 a.2.1 a.2.2.1 a.2.2.2) n (x3, x4, x6, S1) = some o → ∀ (H : Heap) (locs : List Loc) (ls : Array Slot), Wd D cy A s H locs S1 → Gr S S1 → tD S1 o0 11 → lv_has ls 9 [(0, .ref o0), (1, .int x1), (2, .int x2), (3, .int x3), (4, .long x4), (6, .int x6)] → (∀ (e0 : Int32) (S2 : PS), o = .inr (e0, S2) → ∀ (H : Heap) (locs : List Loc) (ls : Array Slot), Wd D cy A s H locs S2 → Gr S1 S2 → lv_has ls 9 [(0, .ref o0), (3, .int e0)] → W p l e (rmK 11 411 0 0) s m args below meth c H locs 0 0 (MQ below (QI D cy S qq.2 qq.1 s.heap.size) args s 0 0 A) (F0 m 90 ls [])) → (∀ q9, o = .inl q9 → q9 = qq) → W p l e (rmK 11 411 0 0) s m args below meth c H locs 0 0 (MQ below (QI D cy S qq.2 qq.1 s.heap.size) args s 0 0 A) (F0 m 36 ls []) := by
    intro o0 x1 x2 n
    induction n with
    | zero => intro x3 x4 x6 S1 o h; exact absurd h (by simp [loopN])
    | succ n ih =>
      intro x3 x4 x6 S1 o h H locs ls hw hG0 t_o0 hl hx2 hq2
      have hg : Gr S1 S1 := Gr.rf
      replace h : (f_X11_bestRow_b36 o0 x1 x2 x3 x4 x6 S1).bind (Sum.elim (loopN (fun a => f_X11_bestRow_b36 o0 x1 x2 a.1 a.2.1 a.2.2.1 a.2.2.2) n) some) = some o := h
      have J77 : ∀ (z6 : Int32) (z7 : Int64) (S3 : PS) (H : Heap) (locs : List Loc) (ls : Array Slot), (f_X11_bestRow_77b36 o0 x1 x2 z6 z7 S3).bind (Sum.elim (loopN (fun a => f_X11_bestRow_b36 o0 x1 x2 a.1 a.2.1 a.2.2.1 a.2.2.2) n) some) = some o → Wd D cy A s H locs S3 → Gr S1 S3 → tD S3 o0 11 → lv_has ls 9 [(0, .ref o0), (1, .int x1), (2, .int x2), (6, .int z6), (7, .long z7)] → W p l e (rmK 11 411 0 0) s m args below meth c H locs 0 0 (MQ below (QI D cy S qq.2 qq.1 s.heap.size) args s 0 0 A) (F0 m 77 ls []) := by
        intro z6 z7 S3 H locs ls h hw hg t_o0 hl
        rw [f_X11_bestRow_77b36] at h
        refine lv_lload hx hb dX11_bestRow_77 (lv_at hl 4 rfl) ?_
        refine lv_lstore (lv' := [(4, .long z7), (0, .ref o0), (1, .int x1), (2, .int x2), (6, .int z6), (7, .long z7)]) hx hb dX11_bestRow_79 hl (by decide) rfl (fun ls hl => ?_)
        refine lv_iload hx hb dX11_bestRow_81 (lv_at hl 4 rfl) ?_
        refine lv_istore_n (lv' := [(3, .int z6), (4, .long z7), (0, .ref o0), (1, .int x1), (2, .int x2), (6, .int z6), (7, .long z7)]) hx hb dX11_bestRow_83 rfl hl (by decide) rfl (fun ls hl => ?_)
        refine lv_iinc (v := z6 + 1) (lv' := [(6, .int (z6 + 1)), (3, .int z6), (4, .long z7), (0, .ref o0), (1, .int x1), (2, .int x2), (7, .long z7)]) hx hb dX11_bestRow_84 hl (k := 5) rfl rfl (by decide) rfl (fun ls hl => ?_)
        refine lv_goto (tgt := 36) hx hb dX11_bestRow_87 (by decide) ?_
        exact ih z6 z7 (z6 + 1) S3 _ h _ _ _ hw (hG0.tr hg) t_o0 (lv_sub hl [3, 4, 5, 1, 2, 0] rfl) (fun e0 S2 he H locs ls hw hG hl => hx2 e0 S2 he H locs ls hw (hg.tr hG) hl) hq2
      rw [f_X11_bestRow_b36] at h
      refine lv_iload hx hb dX11_bestRow_36 (lv_at hl 5 rfl) ?_
      refine lv_aload_n hx hb dX11_bestRow_38 rfl (lv_at hl 0 rfl) ?_
      refine lv_iload_n hx hb dX11_bestRow_39 rfl (lv_at hl 1 rfl) ?_
      obtain ⟨q4, h_q4, h⟩ := bb h
      refine z_VI E F hw [.int x1] (k_X11_rowsOf l D cy kc o0 x1 S1 h_q4 t_o0) t_o0 cf11 mk_X11_rowsOf vk_X11_rowsOf ml_X11_549 ⟨by decide, by decide⟩ rfl hl.1 rfl (Nat.le_of_ble_eq_true rfl) dX11_bestRow_40 ⟨Nat.zero_le _, Nat.zero_le _⟩ (fun H locs hw hG => ?_)
      have t_o0 := hG.t t_o0
      have hg := hg.tr hG
      refine lv_icmp_ge (tgt := 90) hx hb dX11_bestRow_43 (by decide) (fun c10 => ?_) (fun c10 => ?_)
      · rw [if_pos c10] at h
        obtain rfl := Option.some.inj h
        exact hx2 x3 q4.2 rfl _ _ _ hw hg (lv_sub hl [0, 3] rfl)
      · rw [if_neg c10] at h
        refine lv_aload_n hx hb dX11_bestRow_46 rfl (lv_at hl 0 rfl) ?_
        refine lv_iload_n hx hb dX11_bestRow_47 rfl (lv_at hl 1 rfl) ?_
        refine lv_iload hx hb dX11_bestRow_48 (lv_at hl 5 rfl) ?_
        obtain ⟨q5, h_q5, h⟩ := bb h
        refine z_VV E F hw [.int x1, .int x6] (k_X11_asksRow l D cy kc o0 x1 x6 q4.2 h_q5 t_o0) t_o0 cf11 mk_X11_asksRow vk_X11_asksRow ml_X11_539 ⟨by decide, by decide⟩ rfl hl.1 rfl (Nat.le_of_ble_eq_true rfl) dX11_bestRow_50 ⟨Nat.zero_le _, Nat.zero_le _⟩ (fun H locs hw hG => ?_)
        have t_o0 := hG.t t_o0
        have hg := hg.tr hG
        refine lv_aload_n hx hb dX11_bestRow_53 rfl (lv_at hl 0 rfl) ?_
        refine lv_iconst (v := 0) hx hb dX11_bestRow_54 (by decide) ?_
        refine lv_iload_n hx hb dX11_bestRow_55 rfl (lv_at hl 2 rfl) ?_
        refine lv_aload_n hx hb dX11_bestRow_56 rfl (lv_at hl 0 rfl) ?_
        obtain ⟨q6, h_q6, h⟩ := bb h
        refine z_VI E F hw [] (k_X11_startOf l D cy kc o0 q5.2 h_q6 t_o0) t_o0 cf11 mk_X11_startOf vk_X11_startOf ml_X11_453 ⟨by decide, by decide⟩ rfl hl.1 rfl (Nat.le_of_ble_eq_true rfl) dX11_bestRow_57 ⟨Nat.zero_le _, Nat.zero_le _⟩ (fun H locs hw hG => ?_)
        have t_o0 := hG.t t_o0
        have hg := hg.tr hG
        obtain ⟨q7, h_q7, h⟩ := bb h
        refine z_VJ E F hw [.int (0 : Int32), .int x2, .int q6.1] (k_X11_valueNow l D cy kc o0 (0 : Int32) x2 q6.1 q6.2 h_q7 t_o0) t_o0 cf11 mk_X11_valueNow vk_X11_valueNow ml_X11_439 ⟨by decide, by decide⟩ rfl hl.1 rfl (Nat.le_of_ble_eq_true rfl) dX11_bestRow_60 ⟨Nat.zero_le _, Nat.zero_le _⟩ (fun H locs hw hG => ?_)
        have t_o0 := hG.t t_o0
        have hg := hg.tr hG
        refine lv_lstore (lv' := [(7, .long q7.1), (0, .ref o0), (1, .int x1), (2, .int x2), (3, .int x3), (4, .long x4), (6, .int x6)]) hx hb dX11_bestRow_63 hl (by decide) rfl (fun ls hl => ?_)
        refine lv_iload_n hx hb dX11_bestRow_65 rfl (lv_at hl 4 rfl) ?_
        refine lv_if_lt (tgt := 77) hx hb dX11_bestRow_66 (by decide) (fun c9 => ?_) (fun c9 => ?_)
        · rw [if_pos c9] at h
          exact J77 x6 q7.1 q7.2 _ _ _ h hw hg t_o0 (lv_sub hl [1, 2, 3, 6, 0] rfl)
        · rw [if_neg c9] at h
          refine lv_lload hx hb dX11_bestRow_69 (lv_at hl 0 rfl) ?_
          refine lv_lload hx hb dX11_bestRow_71 (lv_at hl 5 rfl) ?_
          refine W.lcmp hx hb dX11_bestRow_73 ?_
          refine lv_if_le (tgt := 84) hx hb dX11_bestRow_74 (by decide) (fun c8 => ?_) (fun c8 => ?_)
          · rw [if_pos c8] at h
            refine lv_iinc (v := x6 + 1) (lv' := [(6, .int (x6 + 1)), (7, .long q7.1), (0, .ref o0), (1, .int x1), (2, .int x2), (3, .int x3), (4, .long x4)]) hx hb dX11_bestRow_84 hl (k := 6) rfl rfl (by decide) rfl (fun ls hl => ?_)
            refine lv_goto (tgt := 36) hx hb dX11_bestRow_87 (by decide) ?_
            exact ih x3 x4 (x6 + 1) q7.2 _ h _ _ _ hw (hG0.tr hg) t_o0 (lv_sub hl [2, 3, 4, 5, 6, 0] rfl) (fun e0 S2 he H locs ls hw hG hl => hx2 e0 S2 he H locs ls hw (hg.tr hG) hl) hq2
          · rw [if_neg c8] at h
            exact J77 x6 q7.1 q7.2 _ _ _ h hw hg t_o0 (lv_sub hl [1, 2, 3, 6, 0] rfl)
  have J90 : ∀ (z3 : Int32) (S3 : PS) (H : Heap) (locs : List Loc) (ls : Array Slot), (f_X11_bestRow_90 o0 z3 S3).bind some = some qq → Wd D cy A s H locs S3 → Gr S S3 → tD S3 o0 11 → lv_has ls 9 [(0, .ref o0), (3, .int z3)] → W p l e (rmK 11 411 0 0) s m args below meth c H locs 0 0 (MQ below (QI D cy S qq.2 qq.1 s.heap.size) args s 0 0 A) (F0 m 90 ls []) := by
    intro z3 S3 H locs ls h hw hg t_o0 hl
    rw [f_X11_bestRow_90] at h
    refine lv_aload_n hx hb dX11_bestRow_90 rfl (lv_at hl 0 rfl) ?_
    refine lv_iconst (v := 1) hx hb dX11_bestRow_91 (by decide) ?_
    obtain ⟨q12, h_q12, h⟩ := bb h
    refine z_VV E F hw [.int (1 : Int32)] (k_X11_keepsAsked l D cy kc o0 (1 : Int32) S3 h_q12 t_o0) t_o0 cf11 mk_X11_keepsAsked vk_X11_keepsAsked ml_X11_545 ⟨by decide, by decide⟩ rfl hl.1 rfl (Nat.le_of_ble_eq_true rfl) dX11_bestRow_92 ⟨Nat.zero_le _, Nat.zero_le _⟩ (fun H locs hw hG => ?_)
    have t_o0 := hG.t t_o0
    have hg := hg.tr hG
    refine lv_iload_n hx hb dX11_bestRow_95 rfl (lv_at hl 1 rfl) ?_
    obtain rfl := Option.some.inj h
    exact r_I E hr hlk F hA hw hg dX11_bestRow_96
  rw [f_X11_bestRow] at h
  refine lv_aload_n hx hb dX11_bestRow_0 rfl (lv_at hl 0 rfl) ?_
  refine lv_iconst (v := 0) hx hb dX11_bestRow_1 (by decide) ?_
  refine p_I E F hw t_o0 cf11 fk_X11_1 rfl rfl rfl dX11_bestRow_2 rfl (fun H locs hw => ?_)
  refine lv_aload_n hx hb dX11_bestRow_5 rfl (lv_at hl 0 rfl) ?_
  refine lv_iload_n hx hb dX11_bestRow_6 rfl (lv_at hl 1 rfl) ?_
  obtain ⟨q1, h_q1, h⟩ := bb h
  refine z_VI E F hw [.int x1] (k_X11_canBring l D cy kc o0 x1 (pI S o0 0 (0 : Int32)) h_q1 t_o0) t_o0 cf11 mk_X11_canBring vk_X11_canBring ml_X11_542 ⟨by decide, by decide⟩ rfl hl.1 rfl (Nat.le_of_ble_eq_true rfl) dX11_bestRow_7 ⟨Nat.zero_le _, Nat.zero_le _⟩ (fun H locs hw hG => ?_)
  have t_o0 := hG.t t_o0
  have hg := hg.tr hG
  refine lv_if_eq (tgt := 21) hx hb dX11_bestRow_10 (by decide) (fun c14 => ?_) (fun c14 => ?_)
  · rw [if_pos c14] at h
    refine lv_iconst (v := (-1)) hx hb dX11_bestRow_21 (by decide) ?_
    obtain rfl := Option.some.inj h
    exact r_I E hr hlk F hA hw hg dX11_bestRow_22
  · rw [if_neg c14] at h
    refine lv_aload_n hx hb dX11_bestRow_13 rfl (lv_at hl 0 rfl) ?_
    refine lv_iload_n hx hb dX11_bestRow_14 rfl (lv_at hl 2 rfl) ?_
    obtain ⟨q2, h_q2, h⟩ := bb h
    refine z_VI E F hw [.int x2] (k_X11_isSort l D cy kc o0 x2 q1.2 h_q2 t_o0) t_o0 cf11 mk_X11_isSort vk_X11_isSort ml_X11_338 ⟨by decide, by decide⟩ rfl hl.1 rfl (Nat.le_of_ble_eq_true rfl) dX11_bestRow_15 ⟨Nat.zero_le _, Nat.zero_le _⟩ (fun H locs hw hG => ?_)
    have t_o0 := hG.t t_o0
    have hg := hg.tr hG
    refine lv_if_ne (tgt := 23) hx hb dX11_bestRow_18 (by decide) (fun c13 => ?_) (fun c13 => ?_)
    · rw [if_neg c13] at h
      refine lv_aload_n hx hb dX11_bestRow_23 rfl (lv_at hl 0 rfl) ?_
      refine lv_iconst (v := 0) hx hb dX11_bestRow_24 (by decide) ?_
      obtain ⟨q3, h_q3, h⟩ := bb h
      refine z_VV E F hw [.int (0 : Int32)] (k_X11_keepsAsked l D cy kc o0 (0 : Int32) q2.2 h_q3 t_o0) t_o0 cf11 mk_X11_keepsAsked vk_X11_keepsAsked ml_X11_545 ⟨by decide, by decide⟩ rfl hl.1 rfl (Nat.le_of_ble_eq_true rfl) dX11_bestRow_25 ⟨Nat.zero_le _, Nat.zero_le _⟩ (fun H locs hw hG => ?_)
      have t_o0 := hG.t t_o0
      have hg := hg.tr hG
      refine lv_iconst (v := (-1)) hx hb dX11_bestRow_28 (by decide) ?_
      refine lv_istore_n (lv' := [(3, .int (-1 : Int32)), (0, .ref o0), (1, .int x1), (2, .int x2)]) hx hb dX11_bestRow_29 rfl hl (by decide) rfl (fun ls hl => ?_)
      refine lv_lconst (v := 0) hx hb dX11_bestRow_30 (by decide) ?_
      refine lv_lstore (lv' := [(4, .long (0 : Int64)), (3, .int (-1 : Int32)), (0, .ref o0), (1, .int x1), (2, .int x2)]) hx hb dX11_bestRow_31 hl (by decide) rfl (fun ls hl => ?_)
      refine lv_iconst (v := 0) hx hb dX11_bestRow_33 (by decide) ?_
      refine lv_istore (lv' := [(6, .int (0 : Int32)), (4, .long (0 : Int64)), (3, .int (-1 : Int32)), (0, .ref o0), (1, .int x1), (2, .int x2)]) hx hb dX11_bestRow_34 hl (by decide) rfl (fun ls hl => ?_)
      obtain ⟨y11, hy11, h⟩ := bb h
      refine L36 o0 x1 x2 fu (-1 : Int32) (0 : Int64) (0 : Int32) q3.2 y11 hy11 _ _ _ hw (hg) t_o0 (lv_sub hl [3, 4, 5, 2, 1, 0] rfl) (fun e0 S2 he H locs ls hw hG hl => ?_) (fun r he => ?_)
      · subst he
        have t_o0 := hG.t t_o0
        have hg := hg.tr hG
        exact J90 e0 S2 _ _ _ h hw hg t_o0 (lv_sub hl [0, 1] rfl)
      · subst he
        exact Option.some.inj h
    · rw [if_pos c13] at h
      refine lv_iconst (v := (-1)) hx hb dX11_bestRow_21 (by decide) ?_
      obtain rfl := Option.some.inj h
      exact r_I E hr hlk F hA hw hg dX11_bestRow_22
def f_X11_row (o0 : Nat) (x1 : Int32) (x2 : Int32) (x3 : Int32) (S : PS) : Option (Int32 × PS) :=
  (if (sI (pI S o0 0 (0 : Int32)) o0 40) = (16 : Int32) then some ((-1 : Int32), pI S o0 0 (0 : Int32)) else (rk (pI S o0 0 (0 : Int32)) (sR (pI S o0 0 (0 : Int32)) o0 41) 13).bind fun b1 => if ib ((3 : Int32) * (sI (pI S o0 0 (0 : Int32)) o0 40)) (sN (pI S o0 0 (0 : Int32)) b1) = true then (rk (pI (pI S o0 0 (0 : Int32)) b1 (Int32.toNatClampNeg ((3 : Int32) * (sI (pI S o0 0 (0 : Int32)) o0 40))) x1) (sR (pI (pI S o0 0 (0 : Int32)) b1 (Int32.toNatClampNeg ((3 : Int32) * (sI (pI S o0 0 (0 : Int32)) o0 40))) x1) o0 41) 13).bind fun b3 => if ib (((3 : Int32) * (sI (pI (pI S o0 0 (0 : Int32)) b1 (Int32.toNatClampNeg ((3 : Int32) * (sI (pI S o0 0 (0 : Int32)) o0 40))) x1) o0 40)) + (1 : Int32)) (sN (pI (pI S o0 0 (0 : Int32)) b1 (Int32.toNatClampNeg ((3 : Int32) * (sI (pI S o0 0 (0 : Int32)) o0 40))) x1) b3) = true then (rk (pI (pI (pI S o0 0 (0 : Int32)) b1 (Int32.toNatClampNeg ((3 : Int32) * (sI (pI S o0 0 (0 : Int32)) o0 40))) x1) b3 (Int32.toNatClampNeg (((3 : Int32) * (sI (pI (pI S o0 0 (0 : Int32)) b1 (Int32.toNatClampNeg ((3 : Int32) * (sI (pI S o0 0 (0 : Int32)) o0 40))) x1) o0 40)) + (1 : Int32))) x2) (sR (pI (pI (pI S o0 0 (0 : Int32)) b1 (Int32.toNatClampNeg ((3 : Int32) * (sI (pI S o0 0 (0 : Int32)) o0 40))) x1) b3 (Int32.toNatClampNeg (((3 : Int32) * (sI (pI (pI S o0 0 (0 : Int32)) b1 (Int32.toNatClampNeg ((3 : Int32) * (sI (pI S o0 0 (0 : Int32)) o0 40))) x1) o0 40)) + (1 : Int32))) x2) o0 41) 13).bind fun b5 => if ib (((3 : Int32) * (sI (pI (pI (pI S o0 0 (0 : Int32)) b1 (Int32.toNatClampNeg ((3 : Int32) * (sI (pI S o0 0 (0 : Int32)) o0 40))) x1) b3 (Int32.toNatClampNeg (((3 : Int32) * (sI (pI (pI S o0 0 (0 : Int32)) b1 (Int32.toNatClampNeg ((3 : Int32) * (sI (pI S o0 0 (0 : Int32)) o0 40))) x1) o0 40)) + (1 : Int32))) x2) o0 40)) + (2 : Int32)) (sN (pI (pI (pI S o0 0 (0 : Int32)) b1 (Int32.toNatClampNeg ((3 : Int32) * (sI (pI S o0 0 (0 : Int32)) o0 40))) x1) b3 (Int32.toNatClampNeg (((3 : Int32) * (sI (pI (pI S o0 0 (0 : Int32)) b1 (Int32.toNatClampNeg ((3 : Int32) * (sI (pI S o0 0 (0 : Int32)) o0 40))) x1) o0 40)) + (1 : Int32))) x2) b5) = true then some ((sI (pI (pI (pI (pI (pI S o0 0 (0 : Int32)) b1 (Int32.toNatClampNeg ((3 : Int32) * (sI (pI S o0 0 (0 : Int32)) o0 40))) x1) b3 (Int32.toNatClampNeg (((3 : Int32) * (sI (pI (pI S o0 0 (0 : Int32)) b1 (Int32.toNatClampNeg ((3 : Int32) * (sI (pI S o0 0 (0 : Int32)) o0 40))) x1) o0 40)) + (1 : Int32))) x2) b5 (Int32.toNatClampNeg (((3 : Int32) * (sI (pI (pI (pI S o0 0 (0 : Int32)) b1 (Int32.toNatClampNeg ((3 : Int32) * (sI (pI S o0 0 (0 : Int32)) o0 40))) x1) b3 (Int32.toNatClampNeg (((3 : Int32) * (sI (pI (pI S o0 0 (0 : Int32)) b1 (Int32.toNatClampNeg ((3 : Int32) * (sI (pI S o0 0 (0 : Int32)) o0 40))) x1) o0 40)) + (1 : Int32))) x2) o0 40)) + (2 : Int32))) x3) o0 40 ((sI (pI (pI (pI (pI S o0 0 (0 : Int32)) b1 (Int32.toNatClampNeg ((3 : Int32) * (sI (pI S o0 0 (0 : Int32)) o0 40))) x1) b3 (Int32.toNatClampNeg (((3 : Int32) * (sI (pI (pI S o0 0 (0 : Int32)) b1 (Int32.toNatClampNeg ((3 : Int32) * (sI (pI S o0 0 (0 : Int32)) o0 40))) x1) o0 40)) + (1 : Int32))) x2) b5 (Int32.toNatClampNeg (((3 : Int32) * (sI (pI (pI (pI S o0 0 (0 : Int32)) b1 (Int32.toNatClampNeg ((3 : Int32) * (sI (pI S o0 0 (0 : Int32)) o0 40))) x1) b3 (Int32.toNatClampNeg (((3 : Int32) * (sI (pI (pI S o0 0 (0 : Int32)) b1 (Int32.toNatClampNeg ((3 : Int32) * (sI (pI S o0 0 (0 : Int32)) o0 40))) x1) o0 40)) + (1 : Int32))) x2) o0 40)) + (2 : Int32))) x3) o0 40) + (1 : Int32))) o0 40), pI (pI (pI (pI (pI S o0 0 (0 : Int32)) b1 (Int32.toNatClampNeg ((3 : Int32) * (sI (pI S o0 0 (0 : Int32)) o0 40))) x1) b3 (Int32.toNatClampNeg (((3 : Int32) * (sI (pI (pI S o0 0 (0 : Int32)) b1 (Int32.toNatClampNeg ((3 : Int32) * (sI (pI S o0 0 (0 : Int32)) o0 40))) x1) o0 40)) + (1 : Int32))) x2) b5 (Int32.toNatClampNeg (((3 : Int32) * (sI (pI (pI (pI S o0 0 (0 : Int32)) b1 (Int32.toNatClampNeg ((3 : Int32) * (sI (pI S o0 0 (0 : Int32)) o0 40))) x1) b3 (Int32.toNatClampNeg (((3 : Int32) * (sI (pI (pI S o0 0 (0 : Int32)) b1 (Int32.toNatClampNeg ((3 : Int32) * (sI (pI S o0 0 (0 : Int32)) o0 40))) x1) o0 40)) + (1 : Int32))) x2) o0 40)) + (2 : Int32))) x3) o0 40 ((sI (pI (pI (pI (pI S o0 0 (0 : Int32)) b1 (Int32.toNatClampNeg ((3 : Int32) * (sI (pI S o0 0 (0 : Int32)) o0 40))) x1) b3 (Int32.toNatClampNeg (((3 : Int32) * (sI (pI (pI S o0 0 (0 : Int32)) b1 (Int32.toNatClampNeg ((3 : Int32) * (sI (pI S o0 0 (0 : Int32)) o0 40))) x1) o0 40)) + (1 : Int32))) x2) b5 (Int32.toNatClampNeg (((3 : Int32) * (sI (pI (pI (pI S o0 0 (0 : Int32)) b1 (Int32.toNatClampNeg ((3 : Int32) * (sI (pI S o0 0 (0 : Int32)) o0 40))) x1) b3 (Int32.toNatClampNeg (((3 : Int32) * (sI (pI (pI S o0 0 (0 : Int32)) b1 (Int32.toNatClampNeg ((3 : Int32) * (sI (pI S o0 0 (0 : Int32)) o0 40))) x1) o0 40)) + (1 : Int32))) x2) o0 40)) + (2 : Int32))) x3) o0 40) + (1 : Int32))) else none else none else none)
set_option maxHeartbeats 4000000 in
set_option maxRecDepth 100000 in
theorem k_X11_row (l : Launch) (D : va_G) (cy : Nat → ClassId) (kc : Nat → Nat) (o0 : Nat) (x1 : Int32) (x2 : Int32) (x3 : Int32) (S : PS) {qq : Int32 × PS} (h : f_X11_row o0 x1 x2 x3 S = some qq) (t_o0 : tD S o0 11) : KI l D cy kc yX11_row cX11_row 4 .int (rmK 1 15 0 0) [.ref o0, .int x1, .int x2, .int x3] S qq.1 qq.2 := by
  refine K_body (Qc := QI D cy S qq.2 qq.1) (by decide) (Nat.le_of_ble_eq_true rfl) ?_
  intro p e s m below meth c A ls args E hr hlk hnm hA F hw hl
  have hx := E.1
  have hb := E.2.1
  have hl : lv_has ls 4 [(0, .ref o0), (1, .int x1), (2, .int x2), (3, .int x3)] := hl
  have hg : Gr S S := Gr.rf
  replace h : (f_X11_row o0 x1 x2 x3 S).bind some = some qq := by rw [h]; rfl
  rw [f_X11_row] at h
  refine lv_aload_n hx hb dX11_row_0 rfl (lv_at hl 0 rfl) ?_
  refine lv_iconst (v := 0) hx hb dX11_row_1 (by decide) ?_
  refine p_I E F hw t_o0 cf11 fk_X11_1 rfl rfl rfl dX11_row_2 rfl (fun H locs hw => ?_)
  refine lv_aload_n hx hb dX11_row_5 rfl (lv_at hl 0 rfl) ?_
  refine g_f E F hw t_o0 cf11 fk_X11_234 dX11_row_6 rfl ?_
  refine lv_bipush (v := 16) hx hb dX11_row_9 (by decide) ?_
  refine lv_icmp_ne (tgt := 16) hx hb dX11_row_11 (by decide) (fun c7 => ?_) (fun c7 => ?_)
  · rw [if_neg c7] at h
    refine lv_aload_n hx hb dX11_row_16 rfl (lv_at hl 0 rfl) ?_
    obtain ⟨b1, r_b1, h⟩ := bb h
    obtain ⟨r_b1, t_b1⟩ := rk_some r_b1
    refine g_R E F hw t_o0 cf11 fk_X11_148 dX11_row_17 rfl r_b1 ?_
    refine lv_iconst (v := 3) hx hb dX11_row_20 (by decide) ?_
    refine lv_aload_n hx hb dX11_row_21 rfl (lv_at hl 0 rfl) ?_
    refine g_f E F hw t_o0 cf11 fk_X11_234 dX11_row_22 rfl ?_
    refine lv_imul hx hb dX11_row_25 ?_
    refine lv_iload_n hx hb dX11_row_26 rfl (lv_at hl 1 rfl) ?_
    obtain ⟨c2, h⟩ := bg h
    refine b_i E F hw t_b1 c2 dX11_row_27 (fun H locs hw => ?_)
    refine lv_aload_n hx hb dX11_row_28 rfl (lv_at hl 0 rfl) ?_
    obtain ⟨b3, r_b3, h⟩ := bb h
    obtain ⟨r_b3, t_b3⟩ := rk_some r_b3
    refine g_R E F hw t_o0 cf11 fk_X11_148 dX11_row_29 rfl r_b3 ?_
    refine lv_iconst (v := 3) hx hb dX11_row_32 (by decide) ?_
    refine lv_aload_n hx hb dX11_row_33 rfl (lv_at hl 0 rfl) ?_
    refine g_f E F hw t_o0 cf11 fk_X11_234 dX11_row_34 rfl ?_
    refine lv_imul hx hb dX11_row_37 ?_
    refine lv_iconst (v := 1) hx hb dX11_row_38 (by decide) ?_
    refine lv_iadd hx hb dX11_row_39 ?_
    refine lv_iload_n hx hb dX11_row_40 rfl (lv_at hl 2 rfl) ?_
    obtain ⟨c4, h⟩ := bg h
    refine b_i E F hw t_b3 c4 dX11_row_41 (fun H locs hw => ?_)
    refine lv_aload_n hx hb dX11_row_42 rfl (lv_at hl 0 rfl) ?_
    obtain ⟨b5, r_b5, h⟩ := bb h
    obtain ⟨r_b5, t_b5⟩ := rk_some r_b5
    refine g_R E F hw t_o0 cf11 fk_X11_148 dX11_row_43 rfl r_b5 ?_
    refine lv_iconst (v := 3) hx hb dX11_row_46 (by decide) ?_
    refine lv_aload_n hx hb dX11_row_47 rfl (lv_at hl 0 rfl) ?_
    refine g_f E F hw t_o0 cf11 fk_X11_234 dX11_row_48 rfl ?_
    refine lv_imul hx hb dX11_row_51 ?_
    refine lv_iconst (v := 2) hx hb dX11_row_52 (by decide) ?_
    refine lv_iadd hx hb dX11_row_53 ?_
    refine lv_iload_n hx hb dX11_row_54 rfl (lv_at hl 3 rfl) ?_
    obtain ⟨c6, h⟩ := bg h
    refine b_i E F hw t_b5 c6 dX11_row_55 (fun H locs hw => ?_)
    refine lv_aload_n hx hb dX11_row_56 rfl (lv_at hl 0 rfl) ?_
    refine lv_dup hx hb dX11_row_57 rfl ?_
    refine g_f E F hw t_o0 cf11 fk_X11_234 dX11_row_58 rfl ?_
    refine lv_iconst (v := 1) hx hb dX11_row_61 (by decide) ?_
    refine lv_iadd hx hb dX11_row_62 ?_
    refine p_I E F hw t_o0 cf11 fk_X11_234 rfl rfl rfl dX11_row_63 rfl (fun H locs hw => ?_)
    refine lv_aload_n hx hb dX11_row_66 rfl (lv_at hl 0 rfl) ?_
    refine g_f E F hw t_o0 cf11 fk_X11_234 dX11_row_67 rfl ?_
    obtain rfl := Option.some.inj h
    exact r_I E hr hlk F hA hw hg dX11_row_70
  · rw [if_pos c7] at h
    refine lv_iconst (v := (-1)) hx hb dX11_row_14 (by decide) ?_
    obtain rfl := Option.some.inj h
    exact r_I E hr hlk F hA hw hg dX11_row_15
def f_X11_clear (o0 : Nat) (S : PS) : Option (Int32 × PS) :=
  some ((1 : Int32), pI (pI S o0 0 (0 : Int32)) o0 40 (0 : Int32))
set_option maxHeartbeats 4000000 in
set_option maxRecDepth 100000 in
theorem k_X11_clear (l : Launch) (D : va_G) (cy : Nat → ClassId) (kc : Nat → Nat) (o0 : Nat) (S : PS) {qq : Int32 × PS} (h : f_X11_clear o0 S = some qq) (t_o0 : tD S o0 11) : KI l D cy kc yX11_clear cX11_clear 1 .boolean (rmK 1 12 0 0) [.ref o0] S qq.1 qq.2 := by
  refine K_body (Qc := QI D cy S qq.2 qq.1) (by decide) (Nat.le_of_ble_eq_true rfl) ?_
  intro p e s m below meth c A ls args E hr hlk hnm hA F hw hl
  have hx := E.1
  have hb := E.2.1
  have hl : lv_has ls 1 [(0, .ref o0)] := hl
  have hg : Gr S S := Gr.rf
  replace h : (f_X11_clear o0 S).bind some = some qq := by rw [h]; rfl
  rw [f_X11_clear] at h
  refine lv_aload_n hx hb dX11_clear_0 rfl (lv_at hl 0 rfl) ?_
  refine lv_iconst (v := 0) hx hb dX11_clear_1 (by decide) ?_
  refine p_I E F hw t_o0 cf11 fk_X11_1 rfl rfl rfl dX11_clear_2 rfl (fun H locs hw => ?_)
  refine lv_aload_n hx hb dX11_clear_5 rfl (lv_at hl 0 rfl) ?_
  refine lv_iconst (v := 0) hx hb dX11_clear_6 (by decide) ?_
  refine p_I E F hw t_o0 cf11 fk_X11_234 rfl rfl rfl dX11_clear_7 rfl (fun H locs hw => ?_)
  refine lv_iconst (v := 1) hx hb dX11_clear_10 (by decide) ?_
  obtain rfl := Option.some.inj h
  exact r_Z E hr hlk F hA hw hg rfl dX11_clear_11
def f_X11_whyNot_91 (o0 : Nat) (x1 : Int32) (x2 : Int32) (z4 : Int32) (z5 : Int32) (S3 : PS) : Option (Int32 × PS) :=
  (if z4 = (-1 : Int32) then some ((0 : Int32), S3) else (f_X11_mayBring o0 x1 x2 z4 z5 S3).bind fun q9 => (if q9.1 = 0 then some ((4 : Int32), q9.2) else some ((0 : Int32), q9.2)))
def f_X11_whyNot_56 (o0 : Nat) (x1 : Int32) (x2 : Int32) (z3 : Int32) (z4 : Int32) (z5 : Int32) (S3 : PS) : Option (Int32 × PS) :=
  (f_X11_sixth o0 x1 z3 S3).bind fun q8 => (if q8.1 = 0 then some ((2 : Int32), q8.2) else (if z4 = (-1 : Int32) then f_X11_whyNot_91 o0 x1 x2 z4 z5 q8.2 else (if z3 = (-1 : Int32) then some ((3 : Int32), q8.2) else (f_X11_isState o0 z4 z5 q8.2).bind fun q12 => (if q12.1 = 0 then some ((3 : Int32), q12.2) else f_X11_whyNot_91 o0 x1 x2 z4 z5 q12.2))))
def f_X11_whyNot (o0 : Nat) (x1 : Int32) (x2 : Int32) (S : PS) : Option (Int32 × PS) :=
  (rk S (sR S o0 41) 13).bind fun b1 => if ib ((3 : Int32) * x1) (sN S b1) = true then (rk S (sR S o0 41) 13).bind fun b3 => if ib (((3 : Int32) * x1) + (1 : Int32)) (sN S b3) = true then (rk S (sR S o0 41) 13).bind fun b5 => if ib (((3 : Int32) * x1) + (2 : Int32)) (sN S b5) = true then (f_X11_isSpring o0 x1 S).bind fun q7 => (if q7.1 = 0 then some ((1 : Int32), q7.2) else (if (sI S b1 (Int32.toNatClampNeg ((3 : Int32) * x1))) = (-1 : Int32) then f_X11_whyNot_56 o0 x1 x2 (sI S b1 (Int32.toNatClampNeg ((3 : Int32) * x1))) (sI S b3 (Int32.toNatClampNeg (((3 : Int32) * x1) + (1 : Int32)))) (sI S b5 (Int32.toNatClampNeg (((3 : Int32) * x1) + (2 : Int32)))) q7.2 else (f_X11_isSort o0 (sI S b1 (Int32.toNatClampNeg ((3 : Int32) * x1))) q7.2).bind fun q17 => (if q17.1 = 0 then some ((2 : Int32), q17.2) else f_X11_whyNot_56 o0 x1 x2 (sI S b1 (Int32.toNatClampNeg ((3 : Int32) * x1))) (sI S b3 (Int32.toNatClampNeg (((3 : Int32) * x1) + (1 : Int32)))) (sI S b5 (Int32.toNatClampNeg (((3 : Int32) * x1) + (2 : Int32)))) q17.2))) else none else none else none
set_option maxHeartbeats 4000000 in
set_option maxRecDepth 100000 in
theorem k_X11_whyNot (l : Launch) (D : va_G) (cy : Nat → ClassId) (kc : Nat → Nat) (o0 : Nat) (x1 : Int32) (x2 : Int32) (S : PS) {qq : Int32 × PS} (h : f_X11_whyNot o0 x1 x2 S = some qq) (t_o0 : tD S o0 11) : KI l D cy kc yX11_whyNot cX11_whyNot 6 .int (rmK 6 213 0 0) [.ref o0, .int x1, .int x2] S qq.1 qq.2 := by
  refine K_body (Qc := QI D cy S qq.2 qq.1) (by decide) (Nat.le_of_ble_eq_true rfl) ?_
  intro p e s m below meth c A ls args E hr hlk hnm hA F hw hl
  have hx := E.1
  have hb := E.2.1
  have hl : lv_has ls 6 [(0, .ref o0), (1, .int x1), (2, .int x2)] := hl
  have hg : Gr S S := Gr.rf
  replace h : (f_X11_whyNot o0 x1 x2 S).bind some = some qq := by rw [h]; rfl
  have J91 : ∀ (z4 : Int32) (z5 : Int32) (S3 : PS) (H : Heap) (locs : List Loc) (ls : Array Slot), (f_X11_whyNot_91 o0 x1 x2 z4 z5 S3).bind some = some qq → Wd D cy A s H locs S3 → Gr S S3 → tD S3 o0 11 → lv_has ls 6 [(0, .ref o0), (1, .int x1), (2, .int x2), (4, .int z4), (5, .int z5)] → W p l e (rmK 6 213 0 0) s m args below meth c H locs 0 0 (MQ below (QI D cy S qq.2 qq.1 s.heap.size) args s 0 0 A) (F0 m 91 ls []) := by
    intro z4 z5 S3 H locs ls h hw hg t_o0 hl
    rw [f_X11_whyNot_91] at h
    refine lv_iload hx hb dX11_whyNot_91 (lv_at hl 3 rfl) ?_
    refine lv_iconst (v := (-1)) hx hb dX11_whyNot_93 (by decide) ?_
    refine lv_icmp_eq (tgt := 114) hx hb dX11_whyNot_94 (by decide) (fun c11 => ?_) (fun c11 => ?_)
    · rw [if_pos c11] at h
      refine lv_iconst (v := 0) hx hb dX11_whyNot_114 (by decide) ?_
      obtain rfl := Option.some.inj h
      exact r_I E hr hlk F hA hw hg dX11_whyNot_115
    · rw [if_neg c11] at h
      refine lv_aload_n hx hb dX11_whyNot_97 rfl (lv_at hl 0 rfl) ?_
      refine lv_iload_n hx hb dX11_whyNot_98 rfl (lv_at hl 1 rfl) ?_
      refine lv_iload_n hx hb dX11_whyNot_99 rfl (lv_at hl 2 rfl) ?_
      refine lv_iload hx hb dX11_whyNot_100 (lv_at hl 3 rfl) ?_
      refine lv_iload hx hb dX11_whyNot_102 (lv_at hl 4 rfl) ?_
      obtain ⟨q9, h_q9, h⟩ := bb h
      refine z_VI E F hw [.int x1, .int x2, .int z4, .int z5] (k_X11_mayBring l D cy kc o0 x1 x2 z4 z5 S3 h_q9 t_o0) t_o0 cf11 mk_X11_mayBring vk_X11_mayBring ml_X11_361 ⟨by decide, by decide⟩ rfl hl.1 rfl (Nat.le_of_ble_eq_true rfl) dX11_whyNot_104 ⟨Nat.zero_le _, Nat.zero_le _⟩ (fun H locs hw hG => ?_)
      have t_o0 := hG.t t_o0
      have hg := hg.tr hG
      refine lv_if_ne (tgt := 114) hx hb dX11_whyNot_107 (by decide) (fun c10 => ?_) (fun c10 => ?_)
      · rw [if_neg c10] at h
        refine lv_iconst (v := 0) hx hb dX11_whyNot_114 (by decide) ?_
        obtain rfl := Option.some.inj h
        exact r_I E hr hlk F hA hw hg dX11_whyNot_115
      · rw [if_pos c10] at h
        refine lv_iconst (v := 4) hx hb dX11_whyNot_110 (by decide) ?_
        refine lv_goto (tgt := 115) hx hb dX11_whyNot_111 (by decide) ?_
        obtain rfl := Option.some.inj h
        exact r_I E hr hlk F hA hw hg dX11_whyNot_115
  have J56 : ∀ (z3 : Int32) (z4 : Int32) (z5 : Int32) (S3 : PS) (H : Heap) (locs : List Loc) (ls : Array Slot), (f_X11_whyNot_56 o0 x1 x2 z3 z4 z5 S3).bind some = some qq → Wd D cy A s H locs S3 → Gr S S3 → tD S3 o0 11 → lv_has ls 6 [(0, .ref o0), (1, .int x1), (2, .int x2), (3, .int z3), (4, .int z4), (5, .int z5)] → W p l e (rmK 6 213 0 0) s m args below meth c H locs 0 0 (MQ below (QI D cy S qq.2 qq.1 s.heap.size) args s 0 0 A) (F0 m 56 ls []) := by
    intro z3 z4 z5 S3 H locs ls h hw hg t_o0 hl
    rw [f_X11_whyNot_56] at h
    refine lv_aload_n hx hb dX11_whyNot_56 rfl (lv_at hl 0 rfl) ?_
    refine lv_iload_n hx hb dX11_whyNot_57 rfl (lv_at hl 1 rfl) ?_
    refine lv_iload_n hx hb dX11_whyNot_58 rfl (lv_at hl 3 rfl) ?_
    obtain ⟨q8, h_q8, h⟩ := bb h
    refine z_VI E F hw [.int x1, .int z3] (k_X11_sixth l D cy kc o0 x1 z3 S3 h_q8 t_o0) t_o0 cf11 mk_X11_sixth vk_X11_sixth ml_X11_410 ⟨by decide, by decide⟩ rfl hl.1 rfl (Nat.le_of_ble_eq_true rfl) dX11_whyNot_59 ⟨Nat.zero_le _, Nat.zero_le _⟩ (fun H locs hw hG => ?_)
    have t_o0 := hG.t t_o0
    have hg := hg.tr hG
    refine lv_if_ne (tgt := 67) hx hb dX11_whyNot_62 (by decide) (fun c16 => ?_) (fun c16 => ?_)
    · rw [if_neg c16] at h
      refine lv_iload hx hb dX11_whyNot_67 (lv_at hl 4 rfl) ?_
      refine lv_iconst (v := (-1)) hx hb dX11_whyNot_69 (by decide) ?_
      refine lv_icmp_eq (tgt := 91) hx hb dX11_whyNot_70 (by decide) (fun c15 => ?_) (fun c15 => ?_)
      · rw [if_pos c15] at h
        exact J91 z4 z5 q8.2 _ _ _ h hw hg t_o0 (lv_sub hl [0, 1, 2, 4, 5] rfl)
      · rw [if_neg c15] at h
        refine lv_iload_n hx hb dX11_whyNot_73 rfl (lv_at hl 3 rfl) ?_
        refine lv_iconst (v := (-1)) hx hb dX11_whyNot_74 (by decide) ?_
        refine lv_icmp_eq (tgt := 89) hx hb dX11_whyNot_75 (by decide) (fun c14 => ?_) (fun c14 => ?_)
        · rw [if_pos c14] at h
          refine lv_iconst (v := 3) hx hb dX11_whyNot_89 (by decide) ?_
          obtain rfl := Option.some.inj h
          exact r_I E hr hlk F hA hw hg dX11_whyNot_90
        · rw [if_neg c14] at h
          refine lv_aload_n hx hb dX11_whyNot_78 rfl (lv_at hl 0 rfl) ?_
          refine lv_iload hx hb dX11_whyNot_79 (lv_at hl 4 rfl) ?_
          refine lv_iload hx hb dX11_whyNot_81 (lv_at hl 5 rfl) ?_
          obtain ⟨q12, h_q12, h⟩ := bb h
          refine z_VI E F hw [.int z4, .int z5] (k_X11_isState l D cy kc o0 z4 z5 q8.2 h_q12 t_o0) t_o0 cf11 mk_X11_isState vk_X11_isState ml_X11_357 ⟨by decide, by decide⟩ rfl hl.1 rfl (Nat.le_of_ble_eq_true rfl) dX11_whyNot_83 ⟨Nat.zero_le _, Nat.zero_le _⟩ (fun H locs hw hG => ?_)
          have t_o0 := hG.t t_o0
          have hg := hg.tr hG
          refine lv_if_ne (tgt := 91) hx hb dX11_whyNot_86 (by decide) (fun c13 => ?_) (fun c13 => ?_)
          · rw [if_neg c13] at h
            exact J91 z4 z5 q12.2 _ _ _ h hw hg t_o0 (lv_sub hl [0, 1, 2, 4, 5] rfl)
          · rw [if_pos c13] at h
            refine lv_iconst (v := 3) hx hb dX11_whyNot_89 (by decide) ?_
            obtain rfl := Option.some.inj h
            exact r_I E hr hlk F hA hw hg dX11_whyNot_90
    · rw [if_pos c16] at h
      refine lv_iconst (v := 2) hx hb dX11_whyNot_65 (by decide) ?_
      obtain rfl := Option.some.inj h
      exact r_I E hr hlk F hA hw hg dX11_whyNot_66
  rw [f_X11_whyNot] at h
  refine lv_aload_n hx hb dX11_whyNot_0 rfl (lv_at hl 0 rfl) ?_
  obtain ⟨b1, r_b1, h⟩ := bb h
  obtain ⟨r_b1, t_b1⟩ := rk_some r_b1
  refine g_R E F hw t_o0 cf11 fk_X11_148 dX11_whyNot_1 rfl r_b1 ?_
  refine lv_iconst (v := 3) hx hb dX11_whyNot_4 (by decide) ?_
  refine lv_iload_n hx hb dX11_whyNot_5 rfl (lv_at hl 1 rfl) ?_
  refine lv_imul hx hb dX11_whyNot_6 ?_
  obtain ⟨c2, h⟩ := bg h
  refine a_i E F hw t_b1 c2 dX11_whyNot_7 ?_
  refine lv_istore_n (lv' := [(3, .int (sI S b1 (Int32.toNatClampNeg ((3 : Int32) * x1)))), (0, .ref o0), (1, .int x1), (2, .int x2)]) hx hb dX11_whyNot_8 rfl hl (by decide) rfl (fun ls hl => ?_)
  refine lv_aload_n hx hb dX11_whyNot_9 rfl (lv_at hl 1 rfl) ?_
  obtain ⟨b3, r_b3, h⟩ := bb h
  obtain ⟨r_b3, t_b3⟩ := rk_some r_b3
  refine g_R E F hw t_o0 cf11 fk_X11_148 dX11_whyNot_10 rfl r_b3 ?_
  refine lv_iconst (v := 3) hx hb dX11_whyNot_13 (by decide) ?_
  refine lv_iload_n hx hb dX11_whyNot_14 rfl (lv_at hl 2 rfl) ?_
  refine lv_imul hx hb dX11_whyNot_15 ?_
  refine lv_iconst (v := 1) hx hb dX11_whyNot_16 (by decide) ?_
  refine lv_iadd hx hb dX11_whyNot_17 ?_
  obtain ⟨c4, h⟩ := bg h
  refine a_i E F hw t_b3 c4 dX11_whyNot_18 ?_
  refine lv_istore (lv' := [(4, .int (sI S b3 (Int32.toNatClampNeg (((3 : Int32) * x1) + (1 : Int32))))), (3, .int (sI S b1 (Int32.toNatClampNeg ((3 : Int32) * x1)))), (0, .ref o0), (1, .int x1), (2, .int x2)]) hx hb dX11_whyNot_19 hl (by decide) rfl (fun ls hl => ?_)
  refine lv_aload_n hx hb dX11_whyNot_21 rfl (lv_at hl 2 rfl) ?_
  obtain ⟨b5, r_b5, h⟩ := bb h
  obtain ⟨r_b5, t_b5⟩ := rk_some r_b5
  refine g_R E F hw t_o0 cf11 fk_X11_148 dX11_whyNot_22 rfl r_b5 ?_
  refine lv_iconst (v := 3) hx hb dX11_whyNot_25 (by decide) ?_
  refine lv_iload_n hx hb dX11_whyNot_26 rfl (lv_at hl 3 rfl) ?_
  refine lv_imul hx hb dX11_whyNot_27 ?_
  refine lv_iconst (v := 2) hx hb dX11_whyNot_28 (by decide) ?_
  refine lv_iadd hx hb dX11_whyNot_29 ?_
  obtain ⟨c6, h⟩ := bg h
  refine a_i E F hw t_b5 c6 dX11_whyNot_30 ?_
  refine lv_istore (lv' := [(5, .int (sI S b5 (Int32.toNatClampNeg (((3 : Int32) * x1) + (2 : Int32))))), (4, .int (sI S b3 (Int32.toNatClampNeg (((3 : Int32) * x1) + (1 : Int32))))), (3, .int (sI S b1 (Int32.toNatClampNeg ((3 : Int32) * x1)))), (0, .ref o0), (1, .int x1), (2, .int x2)]) hx hb dX11_whyNot_31 hl (by decide) rfl (fun ls hl => ?_)
  refine lv_aload_n hx hb dX11_whyNot_33 rfl (lv_at hl 3 rfl) ?_
  refine lv_iload_n hx hb dX11_whyNot_34 rfl (lv_at hl 4 rfl) ?_
  obtain ⟨q7, h_q7, h⟩ := bb h
  refine z_VI E F hw [.int x1] (k_X11_isSpring l D cy kc o0 x1 S h_q7 t_o0) t_o0 cf11 mk_X11_isSpring vk_X11_isSpring ml_X11_354 ⟨by decide, by decide⟩ rfl hl.1 rfl (Nat.le_of_ble_eq_true rfl) dX11_whyNot_35 ⟨Nat.zero_le _, Nat.zero_le _⟩ (fun H locs hw hG => ?_)
  have t_o0 := hG.t t_o0
  have hg := hg.tr hG
  refine lv_if_ne (tgt := 43) hx hb dX11_whyNot_38 (by decide) (fun c20 => ?_) (fun c20 => ?_)
  · rw [if_neg c20] at h
    refine lv_iload_n hx hb dX11_whyNot_43 rfl (lv_at hl 2 rfl) ?_
    refine lv_iconst (v := (-1)) hx hb dX11_whyNot_44 (by decide) ?_
    refine lv_icmp_eq (tgt := 56) hx hb dX11_whyNot_45 (by decide) (fun c19 => ?_) (fun c19 => ?_)
    · rw [if_pos c19] at h
      exact J56 (sI S b1 (Int32.toNatClampNeg ((3 : Int32) * x1))) (sI S b3 (Int32.toNatClampNeg (((3 : Int32) * x1) + (1 : Int32)))) (sI S b5 (Int32.toNatClampNeg (((3 : Int32) * x1) + (2 : Int32)))) q7.2 _ _ _ h hw hg t_o0 (lv_sub hl [3, 4, 5, 2, 1, 0] rfl)
    · rw [if_neg c19] at h
      refine lv_aload_n hx hb dX11_whyNot_48 rfl (lv_at hl 3 rfl) ?_
      refine lv_iload_n hx hb dX11_whyNot_49 rfl (lv_at hl 2 rfl) ?_
      obtain ⟨q17, h_q17, h⟩ := bb h
      refine z_VI E F hw [.int (sI S b1 (Int32.toNatClampNeg ((3 : Int32) * x1)))] (k_X11_isSort l D cy kc o0 (sI S b1 (Int32.toNatClampNeg ((3 : Int32) * x1))) q7.2 h_q17 t_o0) t_o0 cf11 mk_X11_isSort vk_X11_isSort ml_X11_338 ⟨by decide, by decide⟩ rfl hl.1 rfl (Nat.le_of_ble_eq_true rfl) dX11_whyNot_50 ⟨Nat.zero_le _, Nat.zero_le _⟩ (fun H locs hw hG => ?_)
      have t_o0 := hG.t t_o0
      have hg := hg.tr hG
      refine lv_if_eq (tgt := 65) hx hb dX11_whyNot_53 (by decide) (fun c18 => ?_) (fun c18 => ?_)
      · rw [if_pos c18] at h
        refine lv_iconst (v := 2) hx hb dX11_whyNot_65 (by decide) ?_
        obtain rfl := Option.some.inj h
        exact r_I E hr hlk F hA hw hg dX11_whyNot_66
      · rw [if_neg c18] at h
        exact J56 (sI S b1 (Int32.toNatClampNeg ((3 : Int32) * x1))) (sI S b3 (Int32.toNatClampNeg (((3 : Int32) * x1) + (1 : Int32)))) (sI S b5 (Int32.toNatClampNeg (((3 : Int32) * x1) + (2 : Int32)))) q17.2 _ _ _ h hw hg t_o0 (lv_sub hl [3, 4, 5, 2, 1, 0] rfl)
  · rw [if_pos c20] at h
    refine lv_iconst (v := 1) hx hb dX11_whyNot_41 (by decide) ?_
    obtain rfl := Option.some.inj h
    exact r_I E hr hlk F hA hw hg dX11_whyNot_42
def f_X11_doneBy (o0 : Nat) (x1 : Int32) (x2 : Int32) (S : PS) : Option (Int32 × PS) :=
  (rk S (sR S o0 41) 13).bind fun b1 => if ib (((3 : Int32) * x1) + (1 : Int32)) (sN S b1) = true then (if (sI S b1 (Int32.toNatClampNeg (((3 : Int32) * x1) + (1 : Int32)))) = (-1 : Int32) then some (x2, S) else (rk S (sR S o0 41) 13).bind fun b3 => if ib (((3 : Int32) * x1) + (1 : Int32)) (sN S b3) = true then (rk S (sR S o0 41) 13).bind fun b5 => if ib (((3 : Int32) * x1) + (2 : Int32)) (sN S b5) = true then (f_X11_with x2 (sI S b3 (Int32.toNatClampNeg (((3 : Int32) * x1) + (1 : Int32)))) (sI S b5 (Int32.toNatClampNeg (((3 : Int32) * x1) + (2 : Int32)))) S).bind fun q7 => some (q7.1, q7.2) else none else none) else none
set_option maxHeartbeats 4000000 in
set_option maxRecDepth 100000 in
theorem k_X11_doneBy (l : Launch) (D : va_G) (cy : Nat → ClassId) (kc : Nat → Nat) (o0 : Nat) (x1 : Int32) (x2 : Int32) (S : PS) {qq : Int32 × PS} (h : f_X11_doneBy o0 x1 x2 S = some qq) (t_o0 : tD S o0 11) : KI l D cy kc yX11_doneBy cX11_doneBy 3 .int (rmK 3 88 0 0) [.ref o0, .int x1, .int x2] S qq.1 qq.2 := by
  refine K_body (Qc := QI D cy S qq.2 qq.1) (by decide) (Nat.le_of_ble_eq_true rfl) ?_
  intro p e s m below meth c A ls args E hr hlk hnm hA F hw hl
  have hx := E.1
  have hb := E.2.1
  have hl : lv_has ls 3 [(0, .ref o0), (1, .int x1), (2, .int x2)] := hl
  have hg : Gr S S := Gr.rf
  replace h : (f_X11_doneBy o0 x1 x2 S).bind some = some qq := by rw [h]; rfl
  rw [f_X11_doneBy] at h
  refine lv_aload_n hx hb dX11_doneBy_0 rfl (lv_at hl 0 rfl) ?_
  obtain ⟨b1, r_b1, h⟩ := bb h
  obtain ⟨r_b1, t_b1⟩ := rk_some r_b1
  refine g_R E F hw t_o0 cf11 fk_X11_148 dX11_doneBy_1 rfl r_b1 ?_
  refine lv_iconst (v := 3) hx hb dX11_doneBy_4 (by decide) ?_
  refine lv_iload_n hx hb dX11_doneBy_5 rfl (lv_at hl 1 rfl) ?_
  refine lv_imul hx hb dX11_doneBy_6 ?_
  refine lv_iconst (v := 1) hx hb dX11_doneBy_7 (by decide) ?_
  refine lv_iadd hx hb dX11_doneBy_8 ?_
  obtain ⟨c2, h⟩ := bg h
  refine a_i E F hw t_b1 c2 dX11_doneBy_9 ?_
  refine lv_iconst (v := (-1)) hx hb dX11_doneBy_10 (by decide) ?_
  refine lv_icmp_ne (tgt := 18) hx hb dX11_doneBy_11 (by decide) (fun c8 => ?_) (fun c8 => ?_)
  · rw [if_neg c8] at h
    refine lv_iload_n hx hb dX11_doneBy_18 rfl (lv_at hl 2 rfl) ?_
    refine lv_aload_n hx hb dX11_doneBy_19 rfl (lv_at hl 0 rfl) ?_
    obtain ⟨b3, r_b3, h⟩ := bb h
    obtain ⟨r_b3, t_b3⟩ := rk_some r_b3
    refine g_R E F hw t_o0 cf11 fk_X11_148 dX11_doneBy_20 rfl r_b3 ?_
    refine lv_iconst (v := 3) hx hb dX11_doneBy_23 (by decide) ?_
    refine lv_iload_n hx hb dX11_doneBy_24 rfl (lv_at hl 1 rfl) ?_
    refine lv_imul hx hb dX11_doneBy_25 ?_
    refine lv_iconst (v := 1) hx hb dX11_doneBy_26 (by decide) ?_
    refine lv_iadd hx hb dX11_doneBy_27 ?_
    obtain ⟨c4, h⟩ := bg h
    refine a_i E F hw t_b3 c4 dX11_doneBy_28 ?_
    refine lv_aload_n hx hb dX11_doneBy_29 rfl (lv_at hl 0 rfl) ?_
    obtain ⟨b5, r_b5, h⟩ := bb h
    obtain ⟨r_b5, t_b5⟩ := rk_some r_b5
    refine g_R E F hw t_o0 cf11 fk_X11_148 dX11_doneBy_30 rfl r_b5 ?_
    refine lv_iconst (v := 3) hx hb dX11_doneBy_33 (by decide) ?_
    refine lv_iload_n hx hb dX11_doneBy_34 rfl (lv_at hl 1 rfl) ?_
    refine lv_imul hx hb dX11_doneBy_35 ?_
    refine lv_iconst (v := 2) hx hb dX11_doneBy_36 (by decide) ?_
    refine lv_iadd hx hb dX11_doneBy_37 ?_
    obtain ⟨c6, h⟩ := bg h
    refine a_i E F hw t_b5 c6 dX11_doneBy_38 ?_
    obtain ⟨q7, h_q7, h⟩ := bb h
    refine z_SI E F hw [.int x2, .int (sI S b3 (Int32.toNatClampNeg (((3 : Int32) * x1) + (1 : Int32)))), .int (sI S b5 (Int32.toNatClampNeg (((3 : Int32) * x1) + (2 : Int32))))] (k_X11_with l D cy kc x2 (sI S b3 (Int32.toNatClampNeg (((3 : Int32) * x1) + (1 : Int32)))) (sI S b5 (Int32.toNatClampNeg (((3 : Int32) * x1) + (2 : Int32)))) S h_q7) mk_X11_with sk_X11_with ml_X11_351 ⟨by decide, by decide⟩ rfl hl.1 rfl (Nat.le_of_ble_eq_true rfl) dX11_doneBy_39 ⟨Nat.zero_le _, Nat.zero_le _⟩ (fun H locs hw hG => ?_)
    have t_o0 := hG.t t_o0
    have hg := hg.tr hG
    obtain rfl := Option.some.inj h
    exact r_I E hr hlk F hA hw hg dX11_doneBy_42
  · rw [if_pos c8] at h
    refine lv_iload_n hx hb dX11_doneBy_14 rfl (lv_at hl 2 rfl) ?_
    refine lv_goto (tgt := 42) hx hb dX11_doneBy_15 (by decide) ?_
    obtain rfl := Option.some.inj h
    exact r_I E hr hlk F hA hw hg dX11_doneBy_42
def f_X11_judges_122b34 (o0 : Nat) (z2 : Int32) (z3 : Int32) (z4 : Int32) (w0 : Nat) (y1 : Int32) (y2 : Int32) (S3 : PS) : Option ((Int32 × PS) ⊕ ((Unit × PS) ⊕ (PS))) :=
  (f_X11_sixth o0 z2 z3 (pI S3 w0 45 (y1 + y2))).bind fun q7 => (rk (pJ (pJ q7.2 o0 46 ((sJ (pI S3 w0 45 (y1 + y2)) o0 46) * (Int32.toInt64 q7.1))) o0 47 ((6 : Int64) * (sJ (pJ q7.2 o0 46 ((sJ (pI S3 w0 45 (y1 + y2)) o0 46) * (Int32.toInt64 q7.1))) o0 47))) (sR (pJ (pJ q7.2 o0 46 ((sJ (pI S3 w0 45 (y1 + y2)) o0 46) * (Int32.toInt64 q7.1))) o0 47 ((6 : Int64) * (sJ (pJ q7.2 o0 46 ((sJ (pI S3 w0 45 (y1 + y2)) o0 46) * (Int32.toInt64 q7.1))) o0 47))) o0 42) 13).bind fun b8 => if ib z2 (sN (pJ (pJ q7.2 o0 46 ((sJ (pI S3 w0 45 (y1 + y2)) o0 46) * (Int32.toInt64 q7.1))) o0 47 ((6 : Int64) * (sJ (pJ q7.2 o0 46 ((sJ (pI S3 w0 45 (y1 + y2)) o0 46) * (Int32.toInt64 q7.1))) o0 47))) b8) = true then some (.inl (z4, pI (pI (pJ (pJ q7.2 o0 46 ((sJ (pI S3 w0 45 (y1 + y2)) o0 46) * (Int32.toInt64 q7.1))) o0 47 ((6 : Int64) * (sJ (pJ q7.2 o0 46 ((sJ (pI S3 w0 45 (y1 + y2)) o0 46) * (Int32.toInt64 q7.1))) o0 47))) b8 (Int32.toNatClampNeg z2) z4) o0 43 ((sI (pI (pJ (pJ q7.2 o0 46 ((sJ (pI S3 w0 45 (y1 + y2)) o0 46) * (Int32.toInt64 q7.1))) o0 47 ((6 : Int64) * (sJ (pJ q7.2 o0 46 ((sJ (pI S3 w0 45 (y1 + y2)) o0 46) * (Int32.toInt64 q7.1))) o0 47))) b8 (Int32.toNatClampNeg z2) z4) o0 43) + (1 : Int32)))) else none
def f_X11_judges_b34 (o0 : Nat) (x1 : Int32) (S1 : PS) : Option ((Int32 × PS) ⊕ ((Unit × PS) ⊕ (PS))) :=
  (if (sI S1 o0 40) ≤ (sI S1 o0 43) then some (.inr (.inr (S1))) else (if (sI S1 o0 44) = 0 then (f_X11_whyNot o0 (sI S1 o0 43) x1 S1).bind fun q3 => (if (sI (pI q3.2 o0 44 q3.1) o0 44) = 0 then (rk (pI q3.2 o0 44 q3.1) (sR (pI q3.2 o0 44 q3.1) o0 41) 13).bind fun b4 => if ib ((3 : Int32) * (sI S1 o0 43)) (sN (pI q3.2 o0 44 q3.1) b4) = true then (f_X11_doneBy o0 (sI S1 o0 43) x1 (pI q3.2 o0 44 q3.1)).bind fun q6 => (if (sI (pI q3.2 o0 44 q3.1) b4 (Int32.toNatClampNeg ((3 : Int32) * (sI S1 o0 43)))) = (-1 : Int32) then f_X11_judges_122b34 o0 (sI S1 o0 43) (sI (pI q3.2 o0 44 q3.1) b4 (Int32.toNatClampNeg ((3 : Int32) * (sI S1 o0 43)))) q6.1 o0 (sI q6.2 o0 45) (0 : Int32) q6.2 else (rk q6.2 (sR q6.2 o0 25) 13).bind fun b10 => (f_X11_doesAt (sI S1 o0 43) (sI (pI q3.2 o0 44 q3.1) b4 (Int32.toNatClampNeg ((3 : Int32) * (sI S1 o0 43)))) x1 q6.2).bind fun q11 => if ib q11.1 (sN q11.2 b10) = true then (if (sI q11.2 b10 (Int32.toNatClampNeg q11.1)) = q6.1 then f_X11_judges_122b34 o0 (sI S1 o0 43) (sI (pI q3.2 o0 44 q3.1) b4 (Int32.toNatClampNeg ((3 : Int32) * (sI S1 o0 43)))) q6.1 o0 (sI q6.2 o0 45) (1 : Int32) q11.2 else f_X11_judges_122b34 o0 (sI S1 o0 43) (sI (pI q3.2 o0 44 q3.1) b4 (Int32.toNatClampNeg ((3 : Int32) * (sI S1 o0 43)))) q6.1 o0 (sI q6.2 o0 45) (0 : Int32) q11.2) else none) else none else some (.inl (x1, pI q3.2 o0 44 q3.1))) else some (.inr (.inr (S1)))))
def f_X11_judges_177  (S3 : PS) : Option (Unit × PS) :=
  some ((), S3)
def f_X11_judges (o0 : Nat) (S : PS) : Option (Unit × PS) :=
  (f_X11_find o0 S).bind fun q1 => (f_X11_startOf o0 q1.2).bind fun q2 => (loopN (fun a => f_X11_judges_b34 o0 a.1 a.2) fu (q2.1, pJ (pJ (pI (pI (pI q2.2 o0 43 (0 : Int32)) o0 44 (0 : Int32)) o0 45 (0 : Int32)) o0 46 (1 : Int64)) o0 47 (1 : Int64))).bind (Sum.elim (fun r => some r) (fun a => f_X11_judges_177  a))
set_option maxHeartbeats 4000000 in
set_option maxRecDepth 100000 in
theorem k_X11_judges (l : Launch) (D : va_G) (cy : Nat → ClassId) (kc : Nat → Nat) (o0 : Nat) (S : PS) {qq : Unit × PS} (h : f_X11_judges o0 S = some qq) (t_o0 : tD S o0 11) : KV l D cy kc yX11_judges cX11_judges 5 (rmK 10 372 0 0) [.ref o0] S qq.2 := by
  refine K_body (Qc := QV D cy S qq.2) (by decide) (Nat.le_of_ble_eq_true rfl) ?_
  intro p e s m below meth c A ls args E hr hlk hnm hA F hw hl
  have hx := E.1
  have hb := E.2.1
  have hl : lv_has ls 5 [(0, .ref o0)] := hl
  have hg : Gr S S := Gr.rf
  replace h : (f_X11_judges o0 S).bind some = some qq := by rw [h]; rfl
  have L34 : ∀ (o0 : Nat) (n : Nat) (x1 : Int32) (S1 : PS) (o : (Unit × PS) ⊕ (PS)), loopN (fun a => f_X11_judges_b34 o0 a.1 a.2) n (x1, S1) = some o → ∀ (H : Heap) (locs : List Loc) (ls : Array Slot), Wd D cy A s H locs S1 → Gr S S1 → tD S1 o0 11 → lv_has ls 5 [(0, .ref o0), (1, .int x1)] → (∀ (S2 : PS), o = .inr (S2) → ∀ (H : Heap) (locs : List Loc) (ls : Array Slot), Wd D cy A s H locs S2 → Gr S1 S2 → lv_has ls 5 [] → W p l e (rmK 10 372 0 0) s m args below meth c H locs 0 0 (MQ below (QV D cy S qq.2 s.heap.size) args s 0 0 A) (F0 m 177 ls [])) → (∀ q9, o = .inl q9 → q9 = qq) → W p l e (rmK 10 372 0 0) s m args below meth c H locs 0 0 (MQ below (QV D cy S qq.2 s.heap.size) args s 0 0 A) (F0 m 34 ls []) := by
    intro o0 n
    induction n with
    | zero => intro x1 S1 o h; exact absurd h (by simp [loopN])
    | succ n ih =>
      intro x1 S1 o h H locs ls hw hG0 t_o0 hl hx2 hq2
      have hg : Gr S1 S1 := Gr.rf
      replace h : (f_X11_judges_b34 o0 x1 S1).bind (Sum.elim (loopN (fun a => f_X11_judges_b34 o0 a.1 a.2) n) some) = some o := h
      have J122 : ∀ (z2 : Int32) (z3 : Int32) (z4 : Int32) (w0 : Nat) (y1 : Int32) (y2 : Int32) (S3 : PS) (H : Heap) (locs : List Loc) (ls : Array Slot), (f_X11_judges_122b34 o0 z2 z3 z4 w0 y1 y2 S3).bind (Sum.elim (loopN (fun a => f_X11_judges_b34 o0 a.1 a.2) n) some) = some o → Wd D cy A s H locs S3 → Gr S1 S3 → tD S3 o0 11 → tD S3 w0 11 → lv_has ls 5 [(0, .ref o0), (2, .int z2), (3, .int z3), (4, .int z4)] → W p l e (rmK 10 372 0 0) s m args below meth c H locs 0 0 (MQ below (QV D cy S qq.2 s.heap.size) args s 0 0 A) (F0 m 122 ls [.int y2, .int y1, .ref w0]) := by
        intro z2 z3 z4 w0 y1 y2 S3 H locs ls h hw hg t_o0 t_w0 hl
        rw [f_X11_judges_122b34] at h
        refine lv_iadd hx hb dX11_judges_122 ?_
        refine p_I E F hw t_w0 cf11 fk_X11_561 rfl rfl rfl dX11_judges_123 rfl (fun H locs hw => ?_)
        refine lv_aload_n hx hb dX11_judges_126 rfl (lv_at hl 0 rfl) ?_
        refine lv_aload_n hx hb dX11_judges_127 rfl (lv_at hl 0 rfl) ?_
        refine g_f E F hw t_o0 cf11 fk_X11_564 dX11_judges_128 rfl ?_
        refine lv_aload_n hx hb dX11_judges_131 rfl (lv_at hl 0 rfl) ?_
        refine lv_iload_n hx hb dX11_judges_132 rfl (lv_at hl 1 rfl) ?_
        refine lv_iload_n hx hb dX11_judges_133 rfl (lv_at hl 2 rfl) ?_
        obtain ⟨q7, h_q7, h⟩ := bb h
        refine z_VI E F hw [.int z2, .int z3] (k_X11_sixth l D cy kc o0 z2 z3 (pI S3 w0 45 (y1 + y2)) h_q7 t_o0) t_o0 cf11 mk_X11_sixth vk_X11_sixth ml_X11_410 ⟨by decide, by decide⟩ rfl hl.1 rfl (Nat.le_of_ble_eq_true rfl) dX11_judges_134 ⟨Nat.zero_le _, Nat.zero_le _⟩ (fun H locs hw hG => ?_)
        have t_o0 := hG.t t_o0
        have hg := hg.tr hG
        refine lv_i2l hx hb dX11_judges_137 rfl ?_
        refine lv_lmul hx hb dX11_judges_138 ?_
        refine p_J E F hw t_o0 cf11 fk_X11_564 rfl rfl rfl dX11_judges_139 rfl (fun H locs hw => ?_)
        refine lv_aload_n hx hb dX11_judges_142 rfl (lv_at hl 0 rfl) ?_
        refine lv_ldc2 hx hb E.2.2.2.1 (E.2.2.2.2 _ kl_X11_107) dX11_judges_143 ?_
        refine lv_aload_n hx hb dX11_judges_146 rfl (lv_at hl 0 rfl) ?_
        refine g_f E F hw t_o0 cf11 fk_X11_567 dX11_judges_147 rfl ?_
        refine lv_lmul hx hb dX11_judges_150 ?_
        refine p_J E F hw t_o0 cf11 fk_X11_567 rfl rfl rfl dX11_judges_151 rfl (fun H locs hw => ?_)
        refine lv_iload hx hb dX11_judges_154 (lv_at hl 3 rfl) ?_
        refine lv_istore_n (lv' := [(1, .int z4), (0, .ref o0), (2, .int z2), (3, .int z3), (4, .int z4)]) hx hb dX11_judges_156 rfl hl (by decide) rfl (fun ls hl => ?_)
        refine lv_aload_n hx hb dX11_judges_157 rfl (lv_at hl 1 rfl) ?_
        obtain ⟨b8, r_b8, h⟩ := bb h
        obtain ⟨r_b8, t_b8⟩ := rk_some r_b8
        refine g_R E F hw t_o0 cf11 fk_X11_151 dX11_judges_158 rfl r_b8 ?_
        refine lv_iload_n hx hb dX11_judges_161 rfl (lv_at hl 2 rfl) ?_
        refine lv_iload_n hx hb dX11_judges_162 rfl (lv_at hl 0 rfl) ?_
        obtain ⟨c9, h⟩ := bg h
        refine b_i E F hw t_b8 c9 dX11_judges_163 (fun H locs hw => ?_)
        refine lv_aload_n hx hb dX11_judges_164 rfl (lv_at hl 1 rfl) ?_
        refine lv_dup hx hb dX11_judges_165 rfl ?_
        refine g_f E F hw t_o0 cf11 fk_X11_555 dX11_judges_166 rfl ?_
        refine lv_iconst (v := 1) hx hb dX11_judges_169 (by decide) ?_
        refine lv_iadd hx hb dX11_judges_170 ?_
        refine p_I E F hw t_o0 cf11 fk_X11_555 rfl rfl rfl dX11_judges_171 rfl (fun H locs hw => ?_)
        refine lv_goto (tgt := 34) hx hb dX11_judges_174 (by decide) ?_
        exact ih z4 (pI (pI (pJ (pJ q7.2 o0 46 ((sJ (pI S3 w0 45 (y1 + y2)) o0 46) * (Int32.toInt64 q7.1))) o0 47 ((6 : Int64) * (sJ (pJ q7.2 o0 46 ((sJ (pI S3 w0 45 (y1 + y2)) o0 46) * (Int32.toInt64 q7.1))) o0 47))) b8 (Int32.toNatClampNeg z2) z4) o0 43 ((sI (pI (pJ (pJ q7.2 o0 46 ((sJ (pI S3 w0 45 (y1 + y2)) o0 46) * (Int32.toInt64 q7.1))) o0 47 ((6 : Int64) * (sJ (pJ q7.2 o0 46 ((sJ (pI S3 w0 45 (y1 + y2)) o0 46) * (Int32.toInt64 q7.1))) o0 47))) b8 (Int32.toNatClampNeg z2) z4) o0 43) + (1 : Int32))) _ h _ _ _ hw (hG0.tr hg) t_o0 (lv_sub hl [1, 0] rfl) (fun  S2 he H locs ls hw hG hl => hx2  S2 he H locs ls hw (hg.tr hG) hl) hq2
      rw [f_X11_judges_b34] at h
      refine lv_aload_n hx hb dX11_judges_34 rfl (lv_at hl 0 rfl) ?_
      refine g_f E F hw t_o0 cf11 fk_X11_555 dX11_judges_35 rfl ?_
      refine lv_aload_n hx hb dX11_judges_38 rfl (lv_at hl 0 rfl) ?_
      refine g_f E F hw t_o0 cf11 fk_X11_234 dX11_judges_39 rfl ?_
      refine lv_icmp_ge (tgt := 177) hx hb dX11_judges_42 (by decide) (fun c17 => ?_) (fun c17 => ?_)
      · rw [if_pos c17] at h
        obtain rfl := Option.some.inj h
        exact hx2 S1 rfl _ _ _ hw hg (lv_sub hl [] rfl)
      · rw [if_neg c17] at h
        refine lv_aload_n hx hb dX11_judges_45 rfl (lv_at hl 0 rfl) ?_
        refine g_f E F hw t_o0 cf11 fk_X11_558 dX11_judges_46 rfl ?_
        refine lv_if_ne (tgt := 177) hx hb dX11_judges_49 (by decide) (fun c16 => ?_) (fun c16 => ?_)
        · rw [if_neg c16] at h
          obtain rfl := Option.some.inj h
          exact hx2 S1 rfl _ _ _ hw hg (lv_sub hl [] rfl)
        · rw [if_pos c16] at h
          refine lv_aload_n hx hb dX11_judges_52 rfl (lv_at hl 0 rfl) ?_
          refine g_f E F hw t_o0 cf11 fk_X11_555 dX11_judges_53 rfl ?_
          refine lv_istore_n (lv' := [(2, .int (sI S1 o0 43)), (0, .ref o0), (1, .int x1)]) hx hb dX11_judges_56 rfl hl (by decide) rfl (fun ls hl => ?_)
          refine lv_aload_n hx hb dX11_judges_57 rfl (lv_at hl 1 rfl) ?_
          refine lv_aload_n hx hb dX11_judges_58 rfl (lv_at hl 1 rfl) ?_
          refine lv_iload_n hx hb dX11_judges_59 rfl (lv_at hl 0 rfl) ?_
          refine lv_iload_n hx hb dX11_judges_60 rfl (lv_at hl 2 rfl) ?_
          obtain ⟨q3, h_q3, h⟩ := bb h
          refine z_VI E F hw [.int (sI S1 o0 43), .int x1] (k_X11_whyNot l D cy kc o0 (sI S1 o0 43) x1 S1 h_q3 t_o0) t_o0 cf11 mk_X11_whyNot vk_X11_whyNot ml_X11_570 ⟨by decide, by decide⟩ rfl hl.1 rfl (Nat.le_of_ble_eq_true rfl) dX11_judges_61 ⟨Nat.zero_le _, Nat.zero_le _⟩ (fun H locs hw hG => ?_)
          have t_o0 := hG.t t_o0
          have hg := hg.tr hG
          refine p_I E F hw t_o0 cf11 fk_X11_558 rfl rfl rfl dX11_judges_64 rfl (fun H locs hw => ?_)
          refine lv_aload_n hx hb dX11_judges_67 rfl (lv_at hl 1 rfl) ?_
          refine g_f E F hw t_o0 cf11 fk_X11_558 dX11_judges_68 rfl ?_
          refine lv_if_ne (tgt := 174) hx hb dX11_judges_71 (by decide) (fun c15 => ?_) (fun c15 => ?_)
          · rw [if_neg c15] at h
            refine lv_goto (tgt := 34) hx hb dX11_judges_174 (by decide) ?_
            exact ih x1 (pI q3.2 o0 44 q3.1) _ h _ _ _ hw (hG0.tr hg) t_o0 (lv_sub hl [1, 2] rfl) (fun  S2 he H locs ls hw hG hl => hx2  S2 he H locs ls hw (hg.tr hG) hl) hq2
          · rw [if_pos c15] at h
            refine lv_aload_n hx hb dX11_judges_74 rfl (lv_at hl 1 rfl) ?_
            obtain ⟨b4, r_b4, h⟩ := bb h
            obtain ⟨r_b4, t_b4⟩ := rk_some r_b4
            refine g_R E F hw t_o0 cf11 fk_X11_148 dX11_judges_75 rfl r_b4 ?_
            refine lv_iconst (v := 3) hx hb dX11_judges_78 (by decide) ?_
            refine lv_iload_n hx hb dX11_judges_79 rfl (lv_at hl 0 rfl) ?_
            refine lv_imul hx hb dX11_judges_80 ?_
            obtain ⟨c5, h⟩ := bg h
            refine a_i E F hw t_b4 c5 dX11_judges_81 ?_
            refine lv_istore_n (lv' := [(3, .int (sI (pI q3.2 o0 44 q3.1) b4 (Int32.toNatClampNeg ((3 : Int32) * (sI S1 o0 43))))), (2, .int (sI S1 o0 43)), (0, .ref o0), (1, .int x1)]) hx hb dX11_judges_82 rfl hl (by decide) rfl (fun ls hl => ?_)
            refine lv_aload_n hx hb dX11_judges_83 rfl (lv_at hl 2 rfl) ?_
            refine lv_iload_n hx hb dX11_judges_84 rfl (lv_at hl 1 rfl) ?_
            refine lv_iload_n hx hb dX11_judges_85 rfl (lv_at hl 3 rfl) ?_
            obtain ⟨q6, h_q6, h⟩ := bb h
            refine z_VI E F hw [.int (sI S1 o0 43), .int x1] (k_X11_doneBy l D cy kc o0 (sI S1 o0 43) x1 (pI q3.2 o0 44 q3.1) h_q6 t_o0) t_o0 cf11 mk_X11_doneBy vk_X11_doneBy ml_X11_573 ⟨by decide, by decide⟩ rfl hl.1 rfl (Nat.le_of_ble_eq_true rfl) dX11_judges_86 ⟨Nat.zero_le _, Nat.zero_le _⟩ (fun H locs hw hG => ?_)
            have t_o0 := hG.t t_o0
            have hg := hg.tr hG
            refine lv_istore (lv' := [(4, .int q6.1), (3, .int (sI (pI q3.2 o0 44 q3.1) b4 (Int32.toNatClampNeg ((3 : Int32) * (sI S1 o0 43))))), (2, .int (sI S1 o0 43)), (0, .ref o0), (1, .int x1)]) hx hb dX11_judges_89 hl (by decide) rfl (fun ls hl => ?_)
            refine lv_aload_n hx hb dX11_judges_91 rfl (lv_at hl 3 rfl) ?_
            refine lv_dup hx hb dX11_judges_92 rfl ?_
            refine g_f E F hw t_o0 cf11 fk_X11_561 dX11_judges_93 rfl ?_
            refine lv_iload_n hx hb dX11_judges_96 rfl (lv_at hl 1 rfl) ?_
            refine lv_iconst (v := (-1)) hx hb dX11_judges_97 (by decide) ?_
            refine lv_icmp_eq (tgt := 121) hx hb dX11_judges_98 (by decide) (fun c14 => ?_) (fun c14 => ?_)
            · rw [if_pos c14] at h
              refine lv_iconst (v := 0) hx hb dX11_judges_121 (by decide) ?_
              exact J122 (sI S1 o0 43) (sI (pI q3.2 o0 44 q3.1) b4 (Int32.toNatClampNeg ((3 : Int32) * (sI S1 o0 43)))) q6.1 o0 (sI q6.2 o0 45) (0 : Int32) q6.2 _ _ _ h hw hg t_o0 t_o0 (lv_sub hl [3, 2, 1, 0] rfl)
            · rw [if_neg c14] at h
              refine lv_aload_n hx hb dX11_judges_101 rfl (lv_at hl 3 rfl) ?_
              obtain ⟨b10, r_b10, h⟩ := bb h
              obtain ⟨r_b10, t_b10⟩ := rk_some r_b10
              refine g_R E F hw t_o0 cf11 fk_X11_101 dX11_judges_102 rfl r_b10 ?_
              refine lv_iload_n hx hb dX11_judges_105 rfl (lv_at hl 2 rfl) ?_
              refine lv_iload_n hx hb dX11_judges_106 rfl (lv_at hl 1 rfl) ?_
              refine lv_iload_n hx hb dX11_judges_107 rfl (lv_at hl 4 rfl) ?_
              obtain ⟨q11, h_q11, h⟩ := bb h
              refine z_SI E F hw [.int (sI S1 o0 43), .int (sI (pI q3.2 o0 44 q3.1) b4 (Int32.toNatClampNeg ((3 : Int32) * (sI S1 o0 43)))), .int x1] (k_X11_doesAt l D cy kc (sI S1 o0 43) (sI (pI q3.2 o0 44 q3.1) b4 (Int32.toNatClampNeg ((3 : Int32) * (sI S1 o0 43)))) x1 q6.2 h_q11) mk_X11_doesAt sk_X11_doesAt ml_X11_400 ⟨by decide, by decide⟩ rfl hl.1 rfl (Nat.le_of_ble_eq_true rfl) dX11_judges_108 ⟨Nat.zero_le _, Nat.zero_le _⟩ (fun H locs hw hG => ?_)
              have t_o0 := hG.t t_o0
              have t_b10 := hG.t t_b10
              have hg := hg.tr hG
              obtain ⟨c12, h⟩ := bg h
              refine a_i E F hw t_b10 c12 dX11_judges_111 ?_
              refine lv_iload hx hb dX11_judges_112 (lv_at hl 0 rfl) ?_
              refine lv_icmp_ne (tgt := 121) hx hb dX11_judges_114 (by decide) (fun c13 => ?_) (fun c13 => ?_)
              · rw [if_neg c13] at h
                refine lv_iconst (v := 0) hx hb dX11_judges_121 (by decide) ?_
                exact J122 (sI S1 o0 43) (sI (pI q3.2 o0 44 q3.1) b4 (Int32.toNatClampNeg ((3 : Int32) * (sI S1 o0 43)))) q6.1 o0 (sI q6.2 o0 45) (0 : Int32) q11.2 _ _ _ h hw hg t_o0 t_o0 (lv_sub hl [3, 2, 1, 0] rfl)
              · rw [if_pos c13] at h
                refine lv_iconst (v := 1) hx hb dX11_judges_117 (by decide) ?_
                refine lv_goto (tgt := 122) hx hb dX11_judges_118 (by decide) ?_
                exact J122 (sI S1 o0 43) (sI (pI q3.2 o0 44 q3.1) b4 (Int32.toNatClampNeg ((3 : Int32) * (sI S1 o0 43)))) q6.1 o0 (sI q6.2 o0 45) (1 : Int32) q11.2 _ _ _ h hw hg t_o0 t_o0 (lv_sub hl [3, 2, 1, 0] rfl)
  have J177 : ∀  (S3 : PS) (H : Heap) (locs : List Loc) (ls : Array Slot), (f_X11_judges_177  S3).bind some = some qq → Wd D cy A s H locs S3 → Gr S S3 → lv_has ls 5 [] → W p l e (rmK 10 372 0 0) s m args below meth c H locs 0 0 (MQ below (QV D cy S qq.2 s.heap.size) args s 0 0 A) (F0 m 177 ls []) := by
    intro  S3 H locs ls h hw hg  hl
    rw [f_X11_judges_177] at h
    obtain rfl := Option.some.inj h
    exact r_V E hr hlk F hA hw hg dX11_judges_177
  rw [f_X11_judges] at h
  refine lv_aload_n hx hb dX11_judges_0 rfl (lv_at hl 0 rfl) ?_
  obtain ⟨q1, h_q1, h⟩ := bb h
  refine z_VV E F hw [] (k_X11_find l D cy kc o0 S h_q1 t_o0) t_o0 cf11 mk_X11_find vk_X11_find ml_X11_419 ⟨by decide, by decide⟩ rfl hl.1 rfl (Nat.le_of_ble_eq_true rfl) dX11_judges_1 ⟨Nat.zero_le _, Nat.zero_le _⟩ (fun H locs hw hG => ?_)
  have t_o0 := hG.t t_o0
  have hg := hg.tr hG
  refine lv_aload_n hx hb dX11_judges_4 rfl (lv_at hl 0 rfl) ?_
  obtain ⟨q2, h_q2, h⟩ := bb h
  refine z_VI E F hw [] (k_X11_startOf l D cy kc o0 q1.2 h_q2 t_o0) t_o0 cf11 mk_X11_startOf vk_X11_startOf ml_X11_453 ⟨by decide, by decide⟩ rfl hl.1 rfl (Nat.le_of_ble_eq_true rfl) dX11_judges_5 ⟨Nat.zero_le _, Nat.zero_le _⟩ (fun H locs hw hG => ?_)
  have t_o0 := hG.t t_o0
  have hg := hg.tr hG
  refine lv_istore_n (lv' := [(1, .int q2.1), (0, .ref o0)]) hx hb dX11_judges_8 rfl hl (by decide) rfl (fun ls hl => ?_)
  refine lv_aload_n hx hb dX11_judges_9 rfl (lv_at hl 1 rfl) ?_
  refine lv_iconst (v := 0) hx hb dX11_judges_10 (by decide) ?_
  refine p_I E F hw t_o0 cf11 fk_X11_555 rfl rfl rfl dX11_judges_11 rfl (fun H locs hw => ?_)
  refine lv_aload_n hx hb dX11_judges_14 rfl (lv_at hl 1 rfl) ?_
  refine lv_iconst (v := 0) hx hb dX11_judges_15 (by decide) ?_
  refine p_I E F hw t_o0 cf11 fk_X11_558 rfl rfl rfl dX11_judges_16 rfl (fun H locs hw => ?_)
  refine lv_aload_n hx hb dX11_judges_19 rfl (lv_at hl 1 rfl) ?_
  refine lv_iconst (v := 0) hx hb dX11_judges_20 (by decide) ?_
  refine p_I E F hw t_o0 cf11 fk_X11_561 rfl rfl rfl dX11_judges_21 rfl (fun H locs hw => ?_)
  refine lv_aload_n hx hb dX11_judges_24 rfl (lv_at hl 1 rfl) ?_
  refine lv_lconst (v := 1) hx hb dX11_judges_25 (by decide) ?_
  refine p_J E F hw t_o0 cf11 fk_X11_564 rfl rfl rfl dX11_judges_26 rfl (fun H locs hw => ?_)
  refine lv_aload_n hx hb dX11_judges_29 rfl (lv_at hl 1 rfl) ?_
  refine lv_lconst (v := 1) hx hb dX11_judges_30 (by decide) ?_
  refine p_J E F hw t_o0 cf11 fk_X11_567 rfl rfl rfl dX11_judges_31 rfl (fun H locs hw => ?_)
  obtain ⟨y18, hy18, h⟩ := bb h
  refine L34 o0 fu q2.1 (pJ (pJ (pI (pI (pI q2.2 o0 43 (0 : Int32)) o0 44 (0 : Int32)) o0 45 (0 : Int32)) o0 46 (1 : Int64)) o0 47 (1 : Int64)) y18 hy18 _ _ _ hw (hg) t_o0 (lv_sub hl [1, 0] rfl) (fun  S2 he H locs ls hw hG hl => ?_) (fun r he => ?_)
  · subst he
    have hg := hg.tr hG
    exact J177  S2 _ _ _ h hw hg  (lv_sub hl [] rfl)
  · subst he
    exact Option.some.inj h
def f_X11_judged_22 (o0 : Nat) (x1 : Int32) (w0 : Nat) (y1 : Int32) (S3 : PS) : Option (Int64 × PS) :=
  (if (sI (pI S3 w0 0 y1) o0 0) ≤ 0 then (f_X11_judges o0 (pI S3 w0 0 y1)).bind fun q2 => (f_X11_sets o0 (sJ q2.2 o0 46) (sJ q2.2 o0 47) q2.2).bind fun q3 => (if x1 = 0 then (if (sI q3.2 o0 44) ≤ 0 then some ((-1 : Int64), q3.2) else some ((Int32.toInt64 (sI q3.2 o0 43)), q3.2)) else if x1 = 1 then some ((Int32.toInt64 (sI q3.2 o0 44)), q3.2) else if x1 = 2 then (if (sI q3.2 o0 43) = 0 then (f_X11_startOf o0 q3.2).bind fun q9 => some ((Int32.toInt64 q9.1), q9.2) else (rk q3.2 (sR q3.2 o0 42) 13).bind fun b7 => if ib ((sI q3.2 o0 43) - (1 : Int32)) (sN q3.2 b7) = true then some ((Int32.toInt64 (sI q3.2 b7 (Int32.toNatClampNeg ((sI q3.2 o0 43) - (1 : Int32))))), q3.2) else none) else if x1 = 3 then some ((Int32.toInt64 (sI q3.2 o0 45)), q3.2) else (f_X11_partFound o0 (x1 - (4 : Int32)) q3.2).bind fun q13 => some (q13.1, q13.2)) else some ((0 : Int64), pI S3 w0 0 y1))
def f_X11_judged (o0 : Nat) (x1 : Int32) (S : PS) : Option (Int64 × PS) :=
  (f_X11_within x1 (0 : Int32) (5 : Int32) S).bind fun q1 => (if q1.1 = 0 then f_X11_judged_22 o0 x1 o0 (1 : Int32) q1.2 else (f_X11_sorts o0 q1.2).bind fun q15 => (if q15.1 ≤ 0 then f_X11_judged_22 o0 x1 o0 (1 : Int32) q15.2 else f_X11_judged_22 o0 x1 o0 (0 : Int32) q15.2))
set_option maxHeartbeats 4000000 in
set_option maxRecDepth 100000 in
theorem k_X11_judged (l : Launch) (D : va_G) (cy : Nat → ClassId) (kc : Nat → Nat) (o0 : Nat) (x1 : Int32) (S : PS) {qq : Int64 × PS} (h : f_X11_judged o0 x1 S = some qq) (t_o0 : tD S o0 11) : KJ l D cy kc yX11_judged cX11_judged 2 (rmK 11 412 0 0) [.ref o0, .int x1] S qq.1 qq.2 := by
  refine K_body (Qc := QJ D cy S qq.2 qq.1) (by decide) (Nat.le_of_ble_eq_true rfl) ?_
  intro p e s m below meth c A ls args E hr hlk hnm hA F hw hl
  have hx := E.1
  have hb := E.2.1
  have hl : lv_has ls 2 [(0, .ref o0), (1, .int x1)] := hl
  have hg : Gr S S := Gr.rf
  replace h : (f_X11_judged o0 x1 S).bind some = some qq := by rw [h]; rfl
  have J22 : ∀ (w0 : Nat) (y1 : Int32) (S3 : PS) (H : Heap) (locs : List Loc) (ls : Array Slot), (f_X11_judged_22 o0 x1 w0 y1 S3).bind some = some qq → Wd D cy A s H locs S3 → Gr S S3 → tD S3 o0 11 → tD S3 w0 11 → lv_has ls 2 [(0, .ref o0), (1, .int x1)] → W p l e (rmK 11 412 0 0) s m args below meth c H locs 0 0 (MQ below (QJ D cy S qq.2 qq.1 s.heap.size) args s 0 0 A) (F0 m 22 ls [.int y1, .ref w0]) := by
    intro w0 y1 S3 H locs ls h hw hg t_o0 t_w0 hl
    rw [f_X11_judged_22] at h
    refine p_I E F hw t_w0 cf11 fk_X11_1 rfl rfl rfl dX11_judged_22 rfl (fun H locs hw => ?_)
    refine lv_aload_n hx hb dX11_judged_25 rfl (lv_at hl 0 rfl) ?_
    refine g_f E F hw t_o0 cf11 fk_X11_1 dX11_judged_26 rfl ?_
    refine lv_if_le (tgt := 34) hx hb dX11_judged_29 (by decide) (fun c14 => ?_) (fun c14 => ?_)
    · rw [if_pos c14] at h
      refine lv_aload_n hx hb dX11_judged_34 rfl (lv_at hl 0 rfl) ?_
      obtain ⟨q2, h_q2, h⟩ := bb h
      refine z_VV E F hw [] (k_X11_judges l D cy kc o0 (pI S3 w0 0 y1) h_q2 t_o0) t_o0 cf11 mk_X11_judges vk_X11_judges ml_X11_576 ⟨by decide, by decide⟩ rfl hl.1 rfl (Nat.le_of_ble_eq_true rfl) dX11_judged_35 ⟨Nat.zero_le _, Nat.zero_le _⟩ (fun H locs hw hG => ?_)
      have t_o0 := hG.t t_o0
      have hg := hg.tr hG
      refine lv_aload_n hx hb dX11_judged_38 rfl (lv_at hl 0 rfl) ?_
      refine lv_aload_n hx hb dX11_judged_39 rfl (lv_at hl 0 rfl) ?_
      refine g_f E F hw t_o0 cf11 fk_X11_564 dX11_judged_40 rfl ?_
      refine lv_aload_n hx hb dX11_judged_43 rfl (lv_at hl 0 rfl) ?_
      refine g_f E F hw t_o0 cf11 fk_X11_567 dX11_judged_44 rfl ?_
      obtain ⟨q3, h_q3, h⟩ := bb h
      refine z_VV E F hw [.long (sJ q2.2 o0 46), .long (sJ q2.2 o0 47)] (k_X11_sets l D cy kc o0 (sJ q2.2 o0 46) (sJ q2.2 o0 47) q2.2 h_q3 t_o0) t_o0 cf11 mk_X11_sets vk_X11_sets ml_X11_446 ⟨by decide, by decide⟩ rfl hl.1 rfl (Nat.le_of_ble_eq_true rfl) dX11_judged_47 ⟨Nat.zero_le _, Nat.zero_le _⟩ (fun H locs hw hG => ?_)
      have t_o0 := hG.t t_o0
      have hg := hg.tr hG
      refine lv_iload_n hx hb dX11_judged_50 rfl (lv_at hl 1 rfl) ?_
      by_cases c5 : x1 = 0
      · rw [if_pos c5] at h
        refine lv_tableIn (tgt := 80) hx hb dX11_judged_51 (by rw [c5]; decide) (by rw [c5]; decide) (by rw [c5]; rfl) (by decide) ?_
        refine lv_aload_n hx hb dX11_judged_80 rfl (lv_at hl 0 rfl) ?_
        refine g_f E F hw t_o0 cf11 fk_X11_558 dX11_judged_81 rfl ?_
        refine lv_if_le (tgt := 95) hx hb dX11_judged_84 (by decide) (fun c4 => ?_) (fun c4 => ?_)
        · rw [if_pos c4] at h
          refine lv_ldc2 hx hb E.2.2.2.1 (E.2.2.2.2 _ kl_X11_579) dX11_judged_95 ?_
          obtain rfl := Option.some.inj h
          exact r_J E hr hlk F hA hw hg dX11_judged_98
        · rw [if_neg c4] at h
          refine lv_aload_n hx hb dX11_judged_87 rfl (lv_at hl 0 rfl) ?_
          refine g_f E F hw t_o0 cf11 fk_X11_555 dX11_judged_88 rfl ?_
          refine lv_i2l hx hb dX11_judged_91 rfl ?_
          refine lv_goto (tgt := 98) hx hb dX11_judged_92 (by decide) ?_
          obtain rfl := Option.some.inj h
          exact r_J E hr hlk F hA hw hg dX11_judged_98
      rw [if_neg c5] at h
      by_cases c6 : x1 = 1
      · rw [if_pos c6] at h
        refine lv_tableIn (tgt := 99) hx hb dX11_judged_51 (by rw [c6]; decide) (by rw [c6]; decide) (by rw [c6]; rfl) (by decide) ?_
        refine lv_aload_n hx hb dX11_judged_99 rfl (lv_at hl 0 rfl) ?_
        refine g_f E F hw t_o0 cf11 fk_X11_558 dX11_judged_100 rfl ?_
        refine lv_i2l hx hb dX11_judged_103 rfl ?_
        obtain rfl := Option.some.inj h
        exact r_J E hr hlk F hA hw hg dX11_judged_104
      rw [if_neg c6] at h
      by_cases c11 : x1 = 2
      · rw [if_pos c11] at h
        refine lv_tableIn (tgt := 105) hx hb dX11_judged_51 (by rw [c11]; decide) (by rw [c11]; decide) (by rw [c11]; rfl) (by decide) ?_
        refine lv_aload_n hx hb dX11_judged_105 rfl (lv_at hl 0 rfl) ?_
        refine g_f E F hw t_o0 cf11 fk_X11_555 dX11_judged_106 rfl ?_
        refine lv_if_ne (tgt := 120) hx hb dX11_judged_109 (by decide) (fun c10 => ?_) (fun c10 => ?_)
        · rw [if_neg c10] at h
          refine lv_aload_n hx hb dX11_judged_120 rfl (lv_at hl 0 rfl) ?_
          obtain ⟨b7, r_b7, h⟩ := bb h
          obtain ⟨r_b7, t_b7⟩ := rk_some r_b7
          refine g_R E F hw t_o0 cf11 fk_X11_151 dX11_judged_121 rfl r_b7 ?_
          refine lv_aload_n hx hb dX11_judged_124 rfl (lv_at hl 0 rfl) ?_
          refine g_f E F hw t_o0 cf11 fk_X11_555 dX11_judged_125 rfl ?_
          refine lv_iconst (v := 1) hx hb dX11_judged_128 (by decide) ?_
          refine lv_isub hx hb dX11_judged_129 ?_
          obtain ⟨c8, h⟩ := bg h
          refine a_i E F hw t_b7 c8 dX11_judged_130 ?_
          refine lv_i2l hx hb dX11_judged_131 rfl ?_
          obtain rfl := Option.some.inj h
          exact r_J E hr hlk F hA hw hg dX11_judged_132
        · rw [if_pos c10] at h
          refine lv_aload_n hx hb dX11_judged_112 rfl (lv_at hl 0 rfl) ?_
          obtain ⟨q9, h_q9, h⟩ := bb h
          refine z_VI E F hw [] (k_X11_startOf l D cy kc o0 q3.2 h_q9 t_o0) t_o0 cf11 mk_X11_startOf vk_X11_startOf ml_X11_453 ⟨by decide, by decide⟩ rfl hl.1 rfl (Nat.le_of_ble_eq_true rfl) dX11_judged_113 ⟨Nat.zero_le _, Nat.zero_le _⟩ (fun H locs hw hG => ?_)
          have t_o0 := hG.t t_o0
          have hg := hg.tr hG
          refine lv_i2l hx hb dX11_judged_116 rfl ?_
          refine lv_goto (tgt := 132) hx hb dX11_judged_117 (by decide) ?_
          obtain rfl := Option.some.inj h
          exact r_J E hr hlk F hA hw hg dX11_judged_132
      rw [if_neg c11] at h
      by_cases c12 : x1 = 3
      · rw [if_pos c12] at h
        refine lv_tableIn (tgt := 133) hx hb dX11_judged_51 (by rw [c12]; decide) (by rw [c12]; decide) (by rw [c12]; rfl) (by decide) ?_
        refine lv_aload_n hx hb dX11_judged_133 rfl (lv_at hl 0 rfl) ?_
        refine g_f E F hw t_o0 cf11 fk_X11_561 dX11_judged_134 rfl ?_
        refine lv_i2l hx hb dX11_judged_137 rfl ?_
        obtain rfl := Option.some.inj h
        exact r_J E hr hlk F hA hw hg dX11_judged_138
      rw [if_neg c12] at h
      refine lv_tableOut (tgt := 139) hx hb dX11_judged_51 (by have n0 := ne_toInt (n := 0) (z := 0) c5 (by decide); have n1 := ne_toInt (n := 1) (z := 1) c6 (by decide); have n2 := ne_toInt (n := 2) (z := 2) c11 (by decide); have n3 := ne_toInt (n := 3) (z := 3) c12 (by decide); omega) (by decide) ?_
      refine lv_aload_n hx hb dX11_judged_139 rfl (lv_at hl 0 rfl) ?_
      refine lv_iload_n hx hb dX11_judged_140 rfl (lv_at hl 1 rfl) ?_
      refine lv_iconst (v := 4) hx hb dX11_judged_141 (by decide) ?_
      refine lv_isub hx hb dX11_judged_142 ?_
      obtain ⟨q13, h_q13, h⟩ := bb h
      refine z_VJ E F hw [.int (x1 - (4 : Int32))] (k_X11_partFound l D cy kc o0 (x1 - (4 : Int32)) q3.2 h_q13 t_o0) t_o0 cf11 mk_X11_partFound vk_X11_partFound ml_X11_450 ⟨by decide, by decide⟩ rfl hl.1 rfl (Nat.le_of_ble_eq_true rfl) dX11_judged_143 ⟨Nat.zero_le _, Nat.zero_le _⟩ (fun H locs hw hG => ?_)
      have t_o0 := hG.t t_o0
      have hg := hg.tr hG
      obtain rfl := Option.some.inj h
      exact r_J E hr hlk F hA hw hg dX11_judged_146
    · rw [if_neg c14] at h
      refine lv_lconst (v := 0) hx hb dX11_judged_32 (by decide) ?_
      obtain rfl := Option.some.inj h
      exact r_J E hr hlk F hA hw hg dX11_judged_33
  rw [f_X11_judged] at h
  refine lv_aload_n hx hb dX11_judged_0 rfl (lv_at hl 0 rfl) ?_
  refine lv_iload_n hx hb dX11_judged_1 rfl (lv_at hl 1 rfl) ?_
  refine lv_iconst (v := 0) hx hb dX11_judged_2 (by decide) ?_
  refine lv_iconst (v := 5) hx hb dX11_judged_3 (by decide) ?_
  obtain ⟨q1, h_q1, h⟩ := bb h
  refine z_SI E F hw [.int x1, .int (0 : Int32), .int (5 : Int32)] (k_X11_within l D cy kc x1 (0 : Int32) (5 : Int32) S h_q1) mk_X11_within sk_X11_within ml_X11_303 ⟨by decide, by decide⟩ rfl hl.1 rfl (Nat.le_of_ble_eq_true rfl) dX11_judged_4 ⟨Nat.zero_le _, Nat.zero_le _⟩ (fun H locs hw hG => ?_)
  have t_o0 := hG.t t_o0
  have hg := hg.tr hG
  refine lv_if_eq (tgt := 21) hx hb dX11_judged_7 (by decide) (fun c17 => ?_) (fun c17 => ?_)
  · rw [if_pos c17] at h
    refine lv_iconst (v := 1) hx hb dX11_judged_21 (by decide) ?_
    exact J22 o0 (1 : Int32) q1.2 _ _ _ h hw hg t_o0 t_o0 (lv_sub hl [0, 1] rfl)
  · rw [if_neg c17] at h
    refine lv_aload_n hx hb dX11_judged_10 rfl (lv_at hl 0 rfl) ?_
    obtain ⟨q15, h_q15, h⟩ := bb h
    refine z_VI E F hw [] (k_X11_sorts l D cy kc o0 q1.2 h_q15 t_o0) t_o0 cf11 mk_X11_sorts vk_X11_sorts ml_X11_323 ⟨by decide, by decide⟩ rfl hl.1 rfl (Nat.le_of_ble_eq_true rfl) dX11_judged_11 ⟨Nat.zero_le _, Nat.zero_le _⟩ (fun H locs hw hG => ?_)
    have t_o0 := hG.t t_o0
    have hg := hg.tr hG
    refine lv_if_le (tgt := 21) hx hb dX11_judged_14 (by decide) (fun c16 => ?_) (fun c16 => ?_)
    · rw [if_pos c16] at h
      refine lv_iconst (v := 1) hx hb dX11_judged_21 (by decide) ?_
      exact J22 o0 (1 : Int32) q15.2 _ _ _ h hw hg t_o0 t_o0 (lv_sub hl [0, 1] rfl)
    · rw [if_neg c16] at h
      refine lv_iconst (v := 0) hx hb dX11_judged_17 (by decide) ?_
      refine lv_goto (tgt := 22) hx hb dX11_judged_18 (by decide) ?_
      exact J22 o0 (0 : Int32) q15.2 _ _ _ h hw hg t_o0 t_o0 (lv_sub hl [0, 1] rfl)
def f_X11_stoodAhead (o0 : Nat) (x1 : Int32) (S : PS) : Option (Int32 × PS) :=
  (if x1 = 0 then (f_X11_startOf o0 S).bind fun q3 => some (q3.1, q3.2) else (rk S (sR S o0 42) 13).bind fun b1 => if ib (x1 - (1 : Int32)) (sN S b1) = true then some ((sI S b1 (Int32.toNatClampNeg (x1 - (1 : Int32)))), S) else none)
set_option maxHeartbeats 4000000 in
set_option maxRecDepth 100000 in
theorem k_X11_stoodAhead (l : Launch) (D : va_G) (cy : Nat → ClassId) (kc : Nat → Nat) (o0 : Nat) (x1 : Int32) (S : PS) {qq : Int32 × PS} (h : f_X11_stoodAhead o0 x1 S = some qq) (t_o0 : tD S o0 11) : KI l D cy kc yX11_stoodAhead cX11_stoodAhead 2 .int (rmK 3 90 0 0) [.ref o0, .int x1] S qq.1 qq.2 := by
  refine K_body (Qc := QI D cy S qq.2 qq.1) (by decide) (Nat.le_of_ble_eq_true rfl) ?_
  intro p e s m below meth c A ls args E hr hlk hnm hA F hw hl
  have hx := E.1
  have hb := E.2.1
  have hl : lv_has ls 2 [(0, .ref o0), (1, .int x1)] := hl
  have hg : Gr S S := Gr.rf
  replace h : (f_X11_stoodAhead o0 x1 S).bind some = some qq := by rw [h]; rfl
  rw [f_X11_stoodAhead] at h
  refine lv_iload_n hx hb dX11_stoodAhead_0 rfl (lv_at hl 1 rfl) ?_
  refine lv_if_ne (tgt := 11) hx hb dX11_stoodAhead_1 (by decide) (fun c4 => ?_) (fun c4 => ?_)
  · rw [if_neg c4] at h
    refine lv_aload_n hx hb dX11_stoodAhead_11 rfl (lv_at hl 0 rfl) ?_
    obtain ⟨b1, r_b1, h⟩ := bb h
    obtain ⟨r_b1, t_b1⟩ := rk_some r_b1
    refine g_R E F hw t_o0 cf11 fk_X11_151 dX11_stoodAhead_12 rfl r_b1 ?_
    refine lv_iload_n hx hb dX11_stoodAhead_15 rfl (lv_at hl 1 rfl) ?_
    refine lv_iconst (v := 1) hx hb dX11_stoodAhead_16 (by decide) ?_
    refine lv_isub hx hb dX11_stoodAhead_17 ?_
    obtain ⟨c2, h⟩ := bg h
    refine a_i E F hw t_b1 c2 dX11_stoodAhead_18 ?_
    obtain rfl := Option.some.inj h
    exact r_I E hr hlk F hA hw hg dX11_stoodAhead_19
  · rw [if_pos c4] at h
    refine lv_aload_n hx hb dX11_stoodAhead_4 rfl (lv_at hl 0 rfl) ?_
    obtain ⟨q3, h_q3, h⟩ := bb h
    refine z_VI E F hw [] (k_X11_startOf l D cy kc o0 S h_q3 t_o0) t_o0 cf11 mk_X11_startOf vk_X11_startOf ml_X11_453 ⟨by decide, by decide⟩ rfl hl.1 rfl (Nat.le_of_ble_eq_true rfl) dX11_stoodAhead_5 ⟨Nat.zero_le _, Nat.zero_le _⟩ (fun H locs hw hG => ?_)
    have t_o0 := hG.t t_o0
    have hg := hg.tr hG
    refine lv_goto (tgt := 19) hx hb dX11_stoodAhead_8 (by decide) ?_
    obtain rfl := Option.some.inj h
    exact r_I E hr hlk F hA hw hg dX11_stoodAhead_19
def f_X11_worthsWithout_122b21 (o0 : Nat) (x1 : Int32) (x2 : Int32) (z4 : Int32) (z5 : Int32) (y0 : Int32) (S3 : PS) : Option ((Int32 × Int32 × Int32 × PS) ⊕ ((Int32 × PS) ⊕ (Int32 × PS))) :=
  (f_X11_worthBy o0 x2 y0 (z5 - x1) z5 S3).bind fun q7 => some (.inl (y0, (z4 + q7.1), z5 + 1, q7.2))
def f_X11_worthsWithout_94b21 (o0 : Nat) (x1 : Int32) (x2 : Int32) (z3 : Int32) (z4 : Int32) (z5 : Int32) (z6 : Int32) (y0 : Int32) (S3 : PS) : Option ((Int32 × Int32 × Int32 × PS) ⊕ ((Int32 × PS) ⊕ (Int32 × PS))) :=
  (if y0 = 0 then f_X11_worthsWithout_122b21 o0 x1 x2 z4 z5 z3 S3 else (rk S3 (sR S3 o0 41) 13).bind fun b8 => if ib (((3 : Int32) * z5) + (2 : Int32)) (sN S3 b8) = true then (f_X11_with z3 z6 (sI S3 b8 (Int32.toNatClampNeg (((3 : Int32) * z5) + (2 : Int32)))) S3).bind fun q10 => f_X11_worthsWithout_122b21 o0 x1 x2 z4 z5 q10.1 q10.2 else none)
def f_X11_worthsWithout_b21 (o0 : Nat) (x1 : Int32) (x2 : Int32) (x3 : Int32) (x4 : Int32) (x5 : Int32) (S1 : PS) : Option ((Int32 × Int32 × Int32 × PS) ⊕ ((Int32 × PS) ⊕ (Int32 × PS))) :=
  (if (sI S1 o0 43) ≤ x5 then some (.inr (.inr (x4, S1))) else (f_X11_life o0 S1).bind fun q4 => (if q4.1 ≤ (x5 - x1) then some (.inr (.inr (x4, q4.2))) else (rk q4.2 (sR q4.2 o0 41) 13).bind fun b5 => if ib (((3 : Int32) * x5) + (1 : Int32)) (sN q4.2 b5) = true then (if x5 ≤ x1 then f_X11_worthsWithout_94b21 o0 x1 x2 x3 x4 x5 (sI q4.2 b5 (Int32.toNatClampNeg (((3 : Int32) * x5) + (1 : Int32)))) (0 : Int32) q4.2 else (if (sI q4.2 b5 (Int32.toNatClampNeg (((3 : Int32) * x5) + (1 : Int32)))) = (-1 : Int32) then f_X11_worthsWithout_94b21 o0 x1 x2 x3 x4 x5 (sI q4.2 b5 (Int32.toNatClampNeg (((3 : Int32) * x5) + (1 : Int32)))) (0 : Int32) q4.2 else (rk q4.2 (sR q4.2 o0 41) 13).bind fun b12 => if ib (((3 : Int32) * x5) + (2 : Int32)) (sN q4.2 b12) = true then (f_X11_mayBring o0 x5 x3 (sI q4.2 b5 (Int32.toNatClampNeg (((3 : Int32) * x5) + (1 : Int32)))) (sI q4.2 b12 (Int32.toNatClampNeg (((3 : Int32) * x5) + (2 : Int32)))) q4.2).bind fun q14 => (if q14.1 = 0 then f_X11_worthsWithout_94b21 o0 x1 x2 x3 x4 x5 (sI q4.2 b5 (Int32.toNatClampNeg (((3 : Int32) * x5) + (1 : Int32)))) (0 : Int32) q14.2 else f_X11_worthsWithout_94b21 o0 x1 x2 x3 x4 x5 (sI q4.2 b5 (Int32.toNatClampNeg (((3 : Int32) * x5) + (1 : Int32)))) (1 : Int32) q14.2) else none)) else none))
def f_X11_worthsWithout_146 (z4 : Int32) (S3 : PS) : Option (Int32 × PS) :=
  some (z4, S3)
def f_X11_worthsWithout (o0 : Nat) (x1 : Int32) (S : PS) : Option (Int32 × PS) :=
  (rk S (sR S o0 41) 13).bind fun b1 => if ib ((3 : Int32) * x1) (sN S b1) = true then (f_X11_stoodAhead o0 x1 S).bind fun q3 => (loopN (fun a => f_X11_worthsWithout_b21 o0 x1 (sI S b1 (Int32.toNatClampNeg ((3 : Int32) * x1))) a.1 a.2.1 a.2.2.1 a.2.2.2) fu (q3.1, (0 : Int32), x1, q3.2)).bind (Sum.elim (fun r => some r) (fun a => f_X11_worthsWithout_146 a.1 a.2)) else none
set_option maxHeartbeats 4000000 in
set_option maxRecDepth 100000 in
theorem k_X11_worthsWithout (l : Launch) (D : va_G) (cy : Nat → ClassId) (kc : Nat → Nat) (o0 : Nat) (x1 : Int32) (S : PS) {qq : Int32 × PS} (h : f_X11_worthsWithout o0 x1 S = some qq) (t_o0 : tD S o0 11) : KI l D cy kc yX11_worthsWithout cX11_worthsWithout 8 .int (rmK 6 213 0 0) [.ref o0, .int x1] S qq.1 qq.2 := by
  refine K_body (Qc := QI D cy S qq.2 qq.1) (by decide) (Nat.le_of_ble_eq_true rfl) ?_
  intro p e s m below meth c A ls args E hr hlk hnm hA F hw hl
  have hx := E.1
  have hb := E.2.1
  have hl : lv_has ls 8 [(0, .ref o0), (1, .int x1)] := hl
  have hg : Gr S S := Gr.rf
  replace h : (f_X11_worthsWithout o0 x1 S).bind some = some qq := by rw [h]; rfl
  have L21 : ∀ (o0 : Nat) (x1 : Int32) (x2 : Int32) (n : Nat) (x3 : Int32) (x4 : Int32) (x5 : Int32) (S1 : PS) (o : (Int32 × PS) ⊕ (Int32 × PS)), loopN (fun a => f_X11_worthsWithout_b21 o0 x1 x2 a.1 a.2.1 a.2.2.1 a.2.2.2) n (x3, x4, x5, S1) = some o → ∀ (H : Heap) (locs : List Loc) (ls : Array Slot), Wd D cy A s H locs S1 → Gr S S1 → tD S1 o0 11 → lv_has ls 8 [(0, .ref o0), (1, .int x1), (2, .int x2), (3, .int x3), (4, .int x4), (5, .int x5)] → (∀ (e0 : Int32) (S2 : PS), o = .inr (e0, S2) → ∀ (H : Heap) (locs : List Loc) (ls : Array Slot), Wd D cy A s H locs S2 → Gr S1 S2 → lv_has ls 8 [(4, .int e0)] → W p l e (rmK 6 213 0 0) s m args below meth c H locs 0 0 (MQ below (QI D cy S qq.2 qq.1 s.heap.size) args s 0 0 A) (F0 m 146 ls [])) → (∀ q9, o = .inl q9 → q9 = qq) → W p l e (rmK 6 213 0 0) s m args below meth c H locs 0 0 (MQ below (QI D cy S qq.2 qq.1 s.heap.size) args s 0 0 A) (F0 m 21 ls []) := by
    intro o0 x1 x2 n
    induction n with
    | zero => intro x3 x4 x5 S1 o h; exact absurd h (by simp [loopN])
    | succ n ih =>
      intro x3 x4 x5 S1 o h H locs ls hw hG0 t_o0 hl hx2 hq2
      have hg : Gr S1 S1 := Gr.rf
      replace h : (f_X11_worthsWithout_b21 o0 x1 x2 x3 x4 x5 S1).bind (Sum.elim (loopN (fun a => f_X11_worthsWithout_b21 o0 x1 x2 a.1 a.2.1 a.2.2.1 a.2.2.2) n) some) = some o := h
      have J122 : ∀ (z4 : Int32) (z5 : Int32) (y0 : Int32) (S3 : PS) (H : Heap) (locs : List Loc) (ls : Array Slot), (f_X11_worthsWithout_122b21 o0 x1 x2 z4 z5 y0 S3).bind (Sum.elim (loopN (fun a => f_X11_worthsWithout_b21 o0 x1 x2 a.1 a.2.1 a.2.2.1 a.2.2.2) n) some) = some o → Wd D cy A s H locs S3 → Gr S1 S3 → tD S3 o0 11 → lv_has ls 8 [(0, .ref o0), (1, .int x1), (2, .int x2), (4, .int z4), (5, .int z5)] → W p l e (rmK 6 213 0 0) s m args below meth c H locs 0 0 (MQ below (QI D cy S qq.2 qq.1 s.heap.size) args s 0 0 A) (F0 m 122 ls [.int y0]) := by
        intro z4 z5 y0 S3 H locs ls h hw hg t_o0 hl
        rw [f_X11_worthsWithout_122b21] at h
        refine lv_istore_n (lv' := [(3, .int y0), (0, .ref o0), (1, .int x1), (2, .int x2), (4, .int z4), (5, .int z5)]) hx hb dX11_worthsWithout_122 rfl hl (by decide) rfl (fun ls hl => ?_)
        refine lv_iload hx hb dX11_worthsWithout_123 (lv_at hl 4 rfl) ?_
        refine lv_aload_n hx hb dX11_worthsWithout_125 rfl (lv_at hl 1 rfl) ?_
        refine lv_iload_n hx hb dX11_worthsWithout_126 rfl (lv_at hl 3 rfl) ?_
        refine lv_iload_n hx hb dX11_worthsWithout_127 rfl (lv_at hl 0 rfl) ?_
        refine lv_iload hx hb dX11_worthsWithout_128 (lv_at hl 5 rfl) ?_
        refine lv_iload_n hx hb dX11_worthsWithout_130 rfl (lv_at hl 2 rfl) ?_
        refine lv_isub hx hb dX11_worthsWithout_131 ?_
        refine lv_iload hx hb dX11_worthsWithout_132 (lv_at hl 5 rfl) ?_
        obtain ⟨q7, h_q7, h⟩ := bb h
        refine z_VI E F hw [.int x2, .int y0, .int (z5 - x1), .int z5] (k_X11_worthBy l D cy kc o0 x2 y0 (z5 - x1) z5 S3 h_q7 t_o0) t_o0 cf11 mk_X11_worthBy vk_X11_worthBy ml_X11_371 ⟨by decide, by decide⟩ rfl hl.1 rfl (Nat.le_of_ble_eq_true rfl) dX11_worthsWithout_134 ⟨Nat.zero_le _, Nat.zero_le _⟩ (fun H locs hw hG => ?_)
        have t_o0 := hG.t t_o0
        have hg := hg.tr hG
        refine lv_iadd hx hb dX11_worthsWithout_137 ?_
        refine lv_istore (lv' := [(4, .int (z4 + q7.1)), (3, .int y0), (0, .ref o0), (1, .int x1), (2, .int x2), (5, .int z5)]) hx hb dX11_worthsWithout_138 hl (by decide) rfl (fun ls hl => ?_)
        refine lv_iinc (v := z5 + 1) (lv' := [(5, .int (z5 + 1)), (4, .int (z4 + q7.1)), (3, .int y0), (0, .ref o0), (1, .int x1), (2, .int x2)]) hx hb dX11_worthsWithout_140 hl (k := 5) rfl rfl (by decide) rfl (fun ls hl => ?_)
        refine lv_goto (tgt := 21) hx hb dX11_worthsWithout_143 (by decide) ?_
        exact ih y0 (z4 + q7.1) (z5 + 1) q7.2 _ h _ _ _ hw (hG0.tr hg) t_o0 (lv_sub hl [3, 4, 5, 2, 1, 0] rfl) (fun e0 S2 he H locs ls hw hG hl => hx2 e0 S2 he H locs ls hw (hg.tr hG) hl) hq2
      have J94 : ∀ (z3 : Int32) (z4 : Int32) (z5 : Int32) (z6 : Int32) (y0 : Int32) (S3 : PS) (H : Heap) (locs : List Loc) (ls : Array Slot), (f_X11_worthsWithout_94b21 o0 x1 x2 z3 z4 z5 z6 y0 S3).bind (Sum.elim (loopN (fun a => f_X11_worthsWithout_b21 o0 x1 x2 a.1 a.2.1 a.2.2.1 a.2.2.2) n) some) = some o → Wd D cy A s H locs S3 → Gr S1 S3 → tD S3 o0 11 → lv_has ls 8 [(0, .ref o0), (1, .int x1), (2, .int x2), (3, .int z3), (4, .int z4), (5, .int z5), (6, .int z6)] → W p l e (rmK 6 213 0 0) s m args below meth c H locs 0 0 (MQ below (QI D cy S qq.2 qq.1 s.heap.size) args s 0 0 A) (F0 m 94 ls [.int y0]) := by
        intro z3 z4 z5 z6 y0 S3 H locs ls h hw hg t_o0 hl
        rw [f_X11_worthsWithout_94b21] at h
        refine lv_istore (lv' := [(7, .int y0), (0, .ref o0), (1, .int x1), (2, .int x2), (3, .int z3), (4, .int z4), (5, .int z5), (6, .int z6)]) hx hb dX11_worthsWithout_94 hl (by decide) rfl (fun ls hl => ?_)
        refine lv_iload hx hb dX11_worthsWithout_96 (lv_at hl 0 rfl) ?_
        refine lv_if_eq (tgt := 121) hx hb dX11_worthsWithout_98 (by decide) (fun c11 => ?_) (fun c11 => ?_)
        · rw [if_pos c11] at h
          refine lv_iload_n hx hb dX11_worthsWithout_121 rfl (lv_at hl 4 rfl) ?_
          exact J122 z4 z5 z3 S3 _ _ _ h hw hg t_o0 (lv_sub hl [1, 2, 3, 5, 6] rfl)
        · rw [if_neg c11] at h
          refine lv_iload_n hx hb dX11_worthsWithout_101 rfl (lv_at hl 4 rfl) ?_
          refine lv_iload hx hb dX11_worthsWithout_102 (lv_at hl 7 rfl) ?_
          refine lv_aload_n hx hb dX11_worthsWithout_104 rfl (lv_at hl 1 rfl) ?_
          obtain ⟨b8, r_b8, h⟩ := bb h
          obtain ⟨r_b8, t_b8⟩ := rk_some r_b8
          refine g_R E F hw t_o0 cf11 fk_X11_148 dX11_worthsWithout_105 rfl r_b8 ?_
          refine lv_iconst (v := 3) hx hb dX11_worthsWithout_108 (by decide) ?_
          refine lv_iload hx hb dX11_worthsWithout_109 (lv_at hl 6 rfl) ?_
          refine lv_imul hx hb dX11_worthsWithout_111 ?_
          refine lv_iconst (v := 2) hx hb dX11_worthsWithout_112 (by decide) ?_
          refine lv_iadd hx hb dX11_worthsWithout_113 ?_
          obtain ⟨c9, h⟩ := bg h
          refine a_i E F hw t_b8 c9 dX11_worthsWithout_114 ?_
          obtain ⟨q10, h_q10, h⟩ := bb h
          refine z_SI E F hw [.int z3, .int z6, .int (sI S3 b8 (Int32.toNatClampNeg (((3 : Int32) * z5) + (2 : Int32))))] (k_X11_with l D cy kc z3 z6 (sI S3 b8 (Int32.toNatClampNeg (((3 : Int32) * z5) + (2 : Int32)))) S3 h_q10) mk_X11_with sk_X11_with ml_X11_351 ⟨by decide, by decide⟩ rfl hl.1 rfl (Nat.le_of_ble_eq_true rfl) dX11_worthsWithout_115 ⟨Nat.zero_le _, Nat.zero_le _⟩ (fun H locs hw hG => ?_)
          have t_o0 := hG.t t_o0
          have hg := hg.tr hG
          refine lv_goto (tgt := 122) hx hb dX11_worthsWithout_118 (by decide) ?_
          exact J122 z4 z5 q10.1 q10.2 _ _ _ h hw hg t_o0 (lv_sub hl [1, 2, 3, 5, 6] rfl)
      rw [f_X11_worthsWithout_b21] at h
      refine lv_iload hx hb dX11_worthsWithout_21 (lv_at hl 5 rfl) ?_
      refine lv_aload_n hx hb dX11_worthsWithout_23 rfl (lv_at hl 0 rfl) ?_
      refine g_f E F hw t_o0 cf11 fk_X11_555 dX11_worthsWithout_24 rfl ?_
      refine lv_icmp_ge (tgt := 146) hx hb dX11_worthsWithout_27 (by decide) (fun c19 => ?_) (fun c19 => ?_)
      · rw [if_pos c19] at h
        obtain rfl := Option.some.inj h
        exact hx2 x4 S1 rfl _ _ _ hw hg (lv_sub hl [4] rfl)
      · rw [if_neg c19] at h
        refine lv_iload hx hb dX11_worthsWithout_30 (lv_at hl 5 rfl) ?_
        refine lv_iload_n hx hb dX11_worthsWithout_32 rfl (lv_at hl 1 rfl) ?_
        refine lv_isub hx hb dX11_worthsWithout_33 ?_
        refine lv_aload_n hx hb dX11_worthsWithout_34 rfl (lv_at hl 0 rfl) ?_
        obtain ⟨q4, h_q4, h⟩ := bb h
        refine z_VI E F hw [] (k_X11_life l D cy kc o0 S1 h_q4 t_o0) t_o0 cf11 mk_X11_life vk_X11_life ml_X11_365 ⟨by decide, by decide⟩ rfl hl.1 rfl (Nat.le_of_ble_eq_true rfl) dX11_worthsWithout_35 ⟨Nat.zero_le _, Nat.zero_le _⟩ (fun H locs hw hG => ?_)
        have t_o0 := hG.t t_o0
        have hg := hg.tr hG
        refine lv_icmp_ge (tgt := 146) hx hb dX11_worthsWithout_38 (by decide) (fun c18 => ?_) (fun c18 => ?_)
        · rw [if_pos c18] at h
          obtain rfl := Option.some.inj h
          exact hx2 x4 q4.2 rfl _ _ _ hw hg (lv_sub hl [4] rfl)
        · rw [if_neg c18] at h
          refine lv_aload_n hx hb dX11_worthsWithout_41 rfl (lv_at hl 0 rfl) ?_
          obtain ⟨b5, r_b5, h⟩ := bb h
          obtain ⟨r_b5, t_b5⟩ := rk_some r_b5
          refine g_R E F hw t_o0 cf11 fk_X11_148 dX11_worthsWithout_42 rfl r_b5 ?_
          refine lv_iconst (v := 3) hx hb dX11_worthsWithout_45 (by decide) ?_
          refine lv_iload hx hb dX11_worthsWithout_46 (lv_at hl 5 rfl) ?_
          refine lv_imul hx hb dX11_worthsWithout_48 ?_
          refine lv_iconst (v := 1) hx hb dX11_worthsWithout_49 (by decide) ?_
          refine lv_iadd hx hb dX11_worthsWithout_50 ?_
          obtain ⟨c6, h⟩ := bg h
          refine a_i E F hw t_b5 c6 dX11_worthsWithout_51 ?_
          refine lv_istore (lv' := [(6, .int (sI q4.2 b5 (Int32.toNatClampNeg (((3 : Int32) * x5) + (1 : Int32))))), (0, .ref o0), (1, .int x1), (2, .int x2), (3, .int x3), (4, .int x4), (5, .int x5)]) hx hb dX11_worthsWithout_52 hl (by decide) rfl (fun ls hl => ?_)
          refine lv_iload hx hb dX11_worthsWithout_54 (lv_at hl 6 rfl) ?_
          refine lv_iload_n hx hb dX11_worthsWithout_56 rfl (lv_at hl 2 rfl) ?_
          refine lv_icmp_le (tgt := 93) hx hb dX11_worthsWithout_57 (by decide) (fun c17 => ?_) (fun c17 => ?_)
          · rw [if_pos c17] at h
            refine lv_iconst (v := 0) hx hb dX11_worthsWithout_93 (by decide) ?_
            exact J94 x3 x4 x5 (sI q4.2 b5 (Int32.toNatClampNeg (((3 : Int32) * x5) + (1 : Int32)))) (0 : Int32) q4.2 _ _ _ h hw hg t_o0 (lv_sub hl [1, 2, 3, 4, 5, 6, 0] rfl)
          · rw [if_neg c17] at h
            refine lv_iload hx hb dX11_worthsWithout_60 (lv_at hl 0 rfl) ?_
            refine lv_iconst (v := (-1)) hx hb dX11_worthsWithout_62 (by decide) ?_
            refine lv_icmp_eq (tgt := 93) hx hb dX11_worthsWithout_63 (by decide) (fun c16 => ?_) (fun c16 => ?_)
            · rw [if_pos c16] at h
              refine lv_iconst (v := 0) hx hb dX11_worthsWithout_93 (by decide) ?_
              exact J94 x3 x4 x5 (sI q4.2 b5 (Int32.toNatClampNeg (((3 : Int32) * x5) + (1 : Int32)))) (0 : Int32) q4.2 _ _ _ h hw hg t_o0 (lv_sub hl [1, 2, 3, 4, 5, 6, 0] rfl)
            · rw [if_neg c16] at h
              refine lv_aload_n hx hb dX11_worthsWithout_66 rfl (lv_at hl 1 rfl) ?_
              refine lv_iload hx hb dX11_worthsWithout_67 (lv_at hl 6 rfl) ?_
              refine lv_iload_n hx hb dX11_worthsWithout_69 rfl (lv_at hl 4 rfl) ?_
              refine lv_iload hx hb dX11_worthsWithout_70 (lv_at hl 0 rfl) ?_
              refine lv_aload_n hx hb dX11_worthsWithout_72 rfl (lv_at hl 1 rfl) ?_
              obtain ⟨b12, r_b12, h⟩ := bb h
              obtain ⟨r_b12, t_b12⟩ := rk_some r_b12
              refine g_R E F hw t_o0 cf11 fk_X11_148 dX11_worthsWithout_73 rfl r_b12 ?_
              refine lv_iconst (v := 3) hx hb dX11_worthsWithout_76 (by decide) ?_
              refine lv_iload hx hb dX11_worthsWithout_77 (lv_at hl 6 rfl) ?_
              refine lv_imul hx hb dX11_worthsWithout_79 ?_
              refine lv_iconst (v := 2) hx hb dX11_worthsWithout_80 (by decide) ?_
              refine lv_iadd hx hb dX11_worthsWithout_81 ?_
              obtain ⟨c13, h⟩ := bg h
              refine a_i E F hw t_b12 c13 dX11_worthsWithout_82 ?_
              obtain ⟨q14, h_q14, h⟩ := bb h
              refine z_VI E F hw [.int x5, .int x3, .int (sI q4.2 b5 (Int32.toNatClampNeg (((3 : Int32) * x5) + (1 : Int32)))), .int (sI q4.2 b12 (Int32.toNatClampNeg (((3 : Int32) * x5) + (2 : Int32))))] (k_X11_mayBring l D cy kc o0 x5 x3 (sI q4.2 b5 (Int32.toNatClampNeg (((3 : Int32) * x5) + (1 : Int32)))) (sI q4.2 b12 (Int32.toNatClampNeg (((3 : Int32) * x5) + (2 : Int32)))) q4.2 h_q14 t_o0) t_o0 cf11 mk_X11_mayBring vk_X11_mayBring ml_X11_361 ⟨by decide, by decide⟩ rfl hl.1 rfl (Nat.le_of_ble_eq_true rfl) dX11_worthsWithout_83 ⟨Nat.zero_le _, Nat.zero_le _⟩ (fun H locs hw hG => ?_)
              have t_o0 := hG.t t_o0
              have hg := hg.tr hG
              refine lv_if_eq (tgt := 93) hx hb dX11_worthsWithout_86 (by decide) (fun c15 => ?_) (fun c15 => ?_)
              · rw [if_pos c15] at h
                refine lv_iconst (v := 0) hx hb dX11_worthsWithout_93 (by decide) ?_
                exact J94 x3 x4 x5 (sI q4.2 b5 (Int32.toNatClampNeg (((3 : Int32) * x5) + (1 : Int32)))) (0 : Int32) q14.2 _ _ _ h hw hg t_o0 (lv_sub hl [1, 2, 3, 4, 5, 6, 0] rfl)
              · rw [if_neg c15] at h
                refine lv_iconst (v := 1) hx hb dX11_worthsWithout_89 (by decide) ?_
                refine lv_goto (tgt := 94) hx hb dX11_worthsWithout_90 (by decide) ?_
                exact J94 x3 x4 x5 (sI q4.2 b5 (Int32.toNatClampNeg (((3 : Int32) * x5) + (1 : Int32)))) (1 : Int32) q14.2 _ _ _ h hw hg t_o0 (lv_sub hl [1, 2, 3, 4, 5, 6, 0] rfl)
  have J146 : ∀ (z4 : Int32) (S3 : PS) (H : Heap) (locs : List Loc) (ls : Array Slot), (f_X11_worthsWithout_146 z4 S3).bind some = some qq → Wd D cy A s H locs S3 → Gr S S3 → lv_has ls 8 [(4, .int z4)] → W p l e (rmK 6 213 0 0) s m args below meth c H locs 0 0 (MQ below (QI D cy S qq.2 qq.1 s.heap.size) args s 0 0 A) (F0 m 146 ls []) := by
    intro z4 S3 H locs ls h hw hg  hl
    rw [f_X11_worthsWithout_146] at h
    refine lv_iload hx hb dX11_worthsWithout_146 (lv_at hl 0 rfl) ?_
    obtain rfl := Option.some.inj h
    exact r_I E hr hlk F hA hw hg dX11_worthsWithout_148
  rw [f_X11_worthsWithout] at h
  refine lv_aload_n hx hb dX11_worthsWithout_0 rfl (lv_at hl 0 rfl) ?_
  obtain ⟨b1, r_b1, h⟩ := bb h
  obtain ⟨r_b1, t_b1⟩ := rk_some r_b1
  refine g_R E F hw t_o0 cf11 fk_X11_148 dX11_worthsWithout_1 rfl r_b1 ?_
  refine lv_iconst (v := 3) hx hb dX11_worthsWithout_4 (by decide) ?_
  refine lv_iload_n hx hb dX11_worthsWithout_5 rfl (lv_at hl 1 rfl) ?_
  refine lv_imul hx hb dX11_worthsWithout_6 ?_
  obtain ⟨c2, h⟩ := bg h
  refine a_i E F hw t_b1 c2 dX11_worthsWithout_7 ?_
  refine lv_istore_n (lv' := [(2, .int (sI S b1 (Int32.toNatClampNeg ((3 : Int32) * x1)))), (0, .ref o0), (1, .int x1)]) hx hb dX11_worthsWithout_8 rfl hl (by decide) rfl (fun ls hl => ?_)
  refine lv_aload_n hx hb dX11_worthsWithout_9 rfl (lv_at hl 1 rfl) ?_
  refine lv_iload_n hx hb dX11_worthsWithout_10 rfl (lv_at hl 2 rfl) ?_
  obtain ⟨q3, h_q3, h⟩ := bb h
  refine z_VI E F hw [.int x1] (k_X11_stoodAhead l D cy kc o0 x1 S h_q3 t_o0) t_o0 cf11 mk_X11_stoodAhead vk_X11_stoodAhead ml_X11_581 ⟨by decide, by decide⟩ rfl hl.1 rfl (Nat.le_of_ble_eq_true rfl) dX11_worthsWithout_11 ⟨Nat.zero_le _, Nat.zero_le _⟩ (fun H locs hw hG => ?_)
  have t_o0 := hG.t t_o0
  have hg := hg.tr hG
  refine lv_istore_n (lv' := [(3, .int q3.1), (2, .int (sI S b1 (Int32.toNatClampNeg ((3 : Int32) * x1)))), (0, .ref o0), (1, .int x1)]) hx hb dX11_worthsWithout_14 rfl hl (by decide) rfl (fun ls hl => ?_)
  refine lv_iconst (v := 0) hx hb dX11_worthsWithout_15 (by decide) ?_
  refine lv_istore (lv' := [(4, .int (0 : Int32)), (3, .int q3.1), (2, .int (sI S b1 (Int32.toNatClampNeg ((3 : Int32) * x1)))), (0, .ref o0), (1, .int x1)]) hx hb dX11_worthsWithout_16 hl (by decide) rfl (fun ls hl => ?_)
  refine lv_iload_n hx hb dX11_worthsWithout_18 rfl (lv_at hl 4 rfl) ?_
  refine lv_istore (lv' := [(5, .int x1), (4, .int (0 : Int32)), (3, .int q3.1), (2, .int (sI S b1 (Int32.toNatClampNeg ((3 : Int32) * x1)))), (0, .ref o0), (1, .int x1)]) hx hb dX11_worthsWithout_19 hl (by decide) rfl (fun ls hl => ?_)
  obtain ⟨y20, hy20, h⟩ := bb h
  refine L21 o0 x1 (sI S b1 (Int32.toNatClampNeg ((3 : Int32) * x1))) fu q3.1 (0 : Int32) x1 q3.2 y20 hy20 _ _ _ hw (hg) t_o0 (lv_sub hl [4, 5, 3, 2, 1, 0] rfl) (fun e0 S2 he H locs ls hw hG hl => ?_) (fun r he => ?_)
  · subst he
    have hg := hg.tr hG
    exact J146 e0 S2 _ _ _ h hw hg  (lv_sub hl [0] rfl)
  · subst he
    exact Option.some.inj h
def f_X11_rowFares_b65 (o0 : Nat) (x1 : Int32) (x2 : Int32) (x3 : Int32) (x4 : Int32) (S1 : PS) : Option ((Int32 × Int32 × PS) ⊕ ((Int32 × PS) ⊕ (Int32 × PS))) :=
  (if (sI S1 o0 43) ≤ x4 then some (.inr (.inr (x3, S1))) else (f_X11_life o0 S1).bind fun q6 => (if q6.1 ≤ (x4 - x1) then some (.inr (.inr (x3, q6.2))) else (rk q6.2 (sR q6.2 o0 41) 13).bind fun b7 => if ib ((3 : Int32) * x1) (sN q6.2 b7) = true then (rk q6.2 (sR q6.2 o0 42) 13).bind fun b9 => if ib x4 (sN q6.2 b9) = true then (f_X11_worthBy o0 (sI q6.2 b7 (Int32.toNatClampNeg ((3 : Int32) * x1))) (sI q6.2 b9 (Int32.toNatClampNeg x4)) (x4 - x1) x4 q6.2).bind fun q11 => some (.inl ((x3 + q11.1), x4 + 1, q11.2)) else none else none))
def f_X11_rowFares_119 (o0 : Nat) (x1 : Int32) (x2 : Int32) (z3 : Int32) (S3 : PS) : Option (Int32 × PS) :=
  (if x2 = 0 then some (z3, S3) else (f_X11_worthsWithout o0 x1 S3).bind fun q15 => some ((q15.1 - z3), q15.2))
def f_X11_rowFares_33 (o0 : Nat) (x1 : Int32) (x2 : Int32) (w0 : Nat) (y1 : Int32) (S3 : PS) : Option (Int32 × PS) :=
  (if (sI (pI S3 w0 0 y1) o0 0) ≤ 0 then (f_X11_stoodAhead o0 x1 (pI S3 w0 0 y1)).bind fun q2 => (rk q2.2 (sR q2.2 o0 42) 13).bind fun b3 => if ib x1 (sN q2.2 b3) = true then (f_X11_costOf o0 q2.1 (sI q2.2 b3 (Int32.toNatClampNeg x1)) q2.2).bind fun q5 => (loopN (fun a => f_X11_rowFares_b65 o0 x1 x2 a.1 a.2.1 a.2.2) fu ((-q5.1), x1, q5.2)).bind (Sum.elim (fun r => some r) (fun a => f_X11_rowFares_119 o0 x1 x2 a.1 a.2)) else none else some ((0 : Int32), pI S3 w0 0 y1))
def f_X11_rowFares (o0 : Nat) (x1 : Int32) (x2 : Int32) (S : PS) : Option (Int32 × PS) :=
  (f_X11_judges o0 S).bind fun q1 => (if x1 < 0 then f_X11_rowFares_33 o0 x1 x2 o0 (1 : Int32) q1.2 else (if (sI q1.2 o0 43) ≤ x1 then f_X11_rowFares_33 o0 x1 x2 o0 (1 : Int32) q1.2 else (rk q1.2 (sR q1.2 o0 41) 13).bind fun b18 => if ib ((3 : Int32) * x1) (sN q1.2 b18) = true then (if (sI q1.2 b18 (Int32.toNatClampNeg ((3 : Int32) * x1))) < 0 then f_X11_rowFares_33 o0 x1 x2 o0 (1 : Int32) q1.2 else f_X11_rowFares_33 o0 x1 x2 o0 (0 : Int32) q1.2) else none))
set_option maxHeartbeats 4000000 in
set_option maxRecDepth 100000 in
theorem k_X11_rowFares (l : Launch) (D : va_G) (cy : Nat → ClassId) (kc : Nat → Nat) (o0 : Nat) (x1 : Int32) (x2 : Int32) (S : PS) {qq : Int32 × PS} (h : f_X11_rowFares o0 x1 x2 S = some qq) (t_o0 : tD S o0 11) : KI l D cy kc yX11_rowFares cX11_rowFares 5 .int (rmK 11 412 0 0) [.ref o0, .int x1, .int x2] S qq.1 qq.2 := by
  refine K_body (Qc := QI D cy S qq.2 qq.1) (by decide) (Nat.le_of_ble_eq_true rfl) ?_
  intro p e s m below meth c A ls args E hr hlk hnm hA F hw hl
  have hx := E.1
  have hb := E.2.1
  have hl : lv_has ls 5 [(0, .ref o0), (1, .int x1), (2, .int x2)] := hl
  have hg : Gr S S := Gr.rf
  replace h : (f_X11_rowFares o0 x1 x2 S).bind some = some qq := by rw [h]; rfl
  have L65 : ∀ (o0 : Nat) (x1 : Int32) (x2 : Int32) (n : Nat) (x3 : Int32) (x4 : Int32) (S1 : PS) (o : (Int32 × PS) ⊕ (Int32 × PS)), loopN (fun a => f_X11_rowFares_b65 o0 x1 x2 a.1 a.2.1 a.2.2) n (x3, x4, S1) = some o → ∀ (H : Heap) (locs : List Loc) (ls : Array Slot), Wd D cy A s H locs S1 → Gr S S1 → tD S1 o0 11 → lv_has ls 5 [(0, .ref o0), (1, .int x1), (2, .int x2), (3, .int x3), (4, .int x4)] → (∀ (e0 : Int32) (S2 : PS), o = .inr (e0, S2) → ∀ (H : Heap) (locs : List Loc) (ls : Array Slot), Wd D cy A s H locs S2 → Gr S1 S2 → lv_has ls 5 [(0, .ref o0), (1, .int x1), (2, .int x2), (3, .int e0)] → W p l e (rmK 11 412 0 0) s m args below meth c H locs 0 0 (MQ below (QI D cy S qq.2 qq.1 s.heap.size) args s 0 0 A) (F0 m 119 ls [])) → (∀ q9, o = .inl q9 → q9 = qq) → W p l e (rmK 11 412 0 0) s m args below meth c H locs 0 0 (MQ below (QI D cy S qq.2 qq.1 s.heap.size) args s 0 0 A) (F0 m 65 ls []) := by
    intro o0 x1 x2 n
    induction n with
    | zero => intro x3 x4 S1 o h; exact absurd h (by simp [loopN])
    | succ n ih =>
      intro x3 x4 S1 o h H locs ls hw hG0 t_o0 hl hx2 hq2
      have hg : Gr S1 S1 := Gr.rf
      replace h : (f_X11_rowFares_b65 o0 x1 x2 x3 x4 S1).bind (Sum.elim (loopN (fun a => f_X11_rowFares_b65 o0 x1 x2 a.1 a.2.1 a.2.2) n) some) = some o := h
      rw [f_X11_rowFares_b65] at h
      refine lv_iload hx hb dX11_rowFares_65 (lv_at hl 4 rfl) ?_
      refine lv_aload_n hx hb dX11_rowFares_67 rfl (lv_at hl 0 rfl) ?_
      refine g_f E F hw t_o0 cf11 fk_X11_555 dX11_rowFares_68 rfl ?_
      refine lv_icmp_ge (tgt := 119) hx hb dX11_rowFares_71 (by decide) (fun c13 => ?_) (fun c13 => ?_)
      · rw [if_pos c13] at h
        obtain rfl := Option.some.inj h
        exact hx2 x3 S1 rfl _ _ _ hw hg (lv_sub hl [0, 1, 2, 3] rfl)
      · rw [if_neg c13] at h
        refine lv_iload hx hb dX11_rowFares_74 (lv_at hl 4 rfl) ?_
        refine lv_iload_n hx hb dX11_rowFares_76 rfl (lv_at hl 1 rfl) ?_
        refine lv_isub hx hb dX11_rowFares_77 ?_
        refine lv_aload_n hx hb dX11_rowFares_78 rfl (lv_at hl 0 rfl) ?_
        obtain ⟨q6, h_q6, h⟩ := bb h
        refine z_VI E F hw [] (k_X11_life l D cy kc o0 S1 h_q6 t_o0) t_o0 cf11 mk_X11_life vk_X11_life ml_X11_365 ⟨by decide, by decide⟩ rfl hl.1 rfl (Nat.le_of_ble_eq_true rfl) dX11_rowFares_79 ⟨Nat.zero_le _, Nat.zero_le _⟩ (fun H locs hw hG => ?_)
        have t_o0 := hG.t t_o0
        have hg := hg.tr hG
        refine lv_icmp_ge (tgt := 119) hx hb dX11_rowFares_82 (by decide) (fun c12 => ?_) (fun c12 => ?_)
        · rw [if_pos c12] at h
          obtain rfl := Option.some.inj h
          exact hx2 x3 q6.2 rfl _ _ _ hw hg (lv_sub hl [0, 1, 2, 3] rfl)
        · rw [if_neg c12] at h
          refine lv_iload_n hx hb dX11_rowFares_85 rfl (lv_at hl 3 rfl) ?_
          refine lv_aload_n hx hb dX11_rowFares_86 rfl (lv_at hl 0 rfl) ?_
          refine lv_aload_n hx hb dX11_rowFares_87 rfl (lv_at hl 0 rfl) ?_
          obtain ⟨b7, r_b7, h⟩ := bb h
          obtain ⟨r_b7, t_b7⟩ := rk_some r_b7
          refine g_R E F hw t_o0 cf11 fk_X11_148 dX11_rowFares_88 rfl r_b7 ?_
          refine lv_iconst (v := 3) hx hb dX11_rowFares_91 (by decide) ?_
          refine lv_iload_n hx hb dX11_rowFares_92 rfl (lv_at hl 1 rfl) ?_
          refine lv_imul hx hb dX11_rowFares_93 ?_
          obtain ⟨c8, h⟩ := bg h
          refine a_i E F hw t_b7 c8 dX11_rowFares_94 ?_
          refine lv_aload_n hx hb dX11_rowFares_95 rfl (lv_at hl 0 rfl) ?_
          obtain ⟨b9, r_b9, h⟩ := bb h
          obtain ⟨r_b9, t_b9⟩ := rk_some r_b9
          refine g_R E F hw t_o0 cf11 fk_X11_151 dX11_rowFares_96 rfl r_b9 ?_
          refine lv_iload hx hb dX11_rowFares_99 (lv_at hl 4 rfl) ?_
          obtain ⟨c10, h⟩ := bg h
          refine a_i E F hw t_b9 c10 dX11_rowFares_101 ?_
          refine lv_iload hx hb dX11_rowFares_102 (lv_at hl 4 rfl) ?_
          refine lv_iload_n hx hb dX11_rowFares_104 rfl (lv_at hl 1 rfl) ?_
          refine lv_isub hx hb dX11_rowFares_105 ?_
          refine lv_iload hx hb dX11_rowFares_106 (lv_at hl 4 rfl) ?_
          obtain ⟨q11, h_q11, h⟩ := bb h
          refine z_VI E F hw [.int (sI q6.2 b7 (Int32.toNatClampNeg ((3 : Int32) * x1))), .int (sI q6.2 b9 (Int32.toNatClampNeg x4)), .int (x4 - x1), .int x4] (k_X11_worthBy l D cy kc o0 (sI q6.2 b7 (Int32.toNatClampNeg ((3 : Int32) * x1))) (sI q6.2 b9 (Int32.toNatClampNeg x4)) (x4 - x1) x4 q6.2 h_q11 t_o0) t_o0 cf11 mk_X11_worthBy vk_X11_worthBy ml_X11_371 ⟨by decide, by decide⟩ rfl hl.1 rfl (Nat.le_of_ble_eq_true rfl) dX11_rowFares_108 ⟨Nat.zero_le _, Nat.zero_le _⟩ (fun H locs hw hG => ?_)
          have t_o0 := hG.t t_o0
          have hg := hg.tr hG
          refine lv_iadd hx hb dX11_rowFares_111 ?_
          refine lv_istore_n (lv' := [(3, .int (x3 + q11.1)), (0, .ref o0), (1, .int x1), (2, .int x2), (4, .int x4)]) hx hb dX11_rowFares_112 rfl hl (by decide) rfl (fun ls hl => ?_)
          refine lv_iinc (v := x4 + 1) (lv' := [(4, .int (x4 + 1)), (3, .int (x3 + q11.1)), (0, .ref o0), (1, .int x1), (2, .int x2)]) hx hb dX11_rowFares_113 hl (k := 4) rfl rfl (by decide) rfl (fun ls hl => ?_)
          refine lv_goto (tgt := 65) hx hb dX11_rowFares_116 (by decide) ?_
          exact ih (x3 + q11.1) (x4 + 1) q11.2 _ h _ _ _ hw (hG0.tr hg) t_o0 (lv_sub hl [2, 3, 4, 1, 0] rfl) (fun e0 S2 he H locs ls hw hG hl => hx2 e0 S2 he H locs ls hw (hg.tr hG) hl) hq2
  have J119 : ∀ (z3 : Int32) (S3 : PS) (H : Heap) (locs : List Loc) (ls : Array Slot), (f_X11_rowFares_119 o0 x1 x2 z3 S3).bind some = some qq → Wd D cy A s H locs S3 → Gr S S3 → tD S3 o0 11 → lv_has ls 5 [(0, .ref o0), (1, .int x1), (2, .int x2), (3, .int z3)] → W p l e (rmK 11 412 0 0) s m args below meth c H locs 0 0 (MQ below (QI D cy S qq.2 qq.1 s.heap.size) args s 0 0 A) (F0 m 119 ls []) := by
    intro z3 S3 H locs ls h hw hg t_o0 hl
    rw [f_X11_rowFares_119] at h
    refine lv_iload_n hx hb dX11_rowFares_119 rfl (lv_at hl 2 rfl) ?_
    refine lv_if_eq (tgt := 133) hx hb dX11_rowFares_120 (by decide) (fun c16 => ?_) (fun c16 => ?_)
    · rw [if_pos c16] at h
      refine lv_iload_n hx hb dX11_rowFares_133 rfl (lv_at hl 3 rfl) ?_
      obtain rfl := Option.some.inj h
      exact r_I E hr hlk F hA hw hg dX11_rowFares_134
    · rw [if_neg c16] at h
      refine lv_aload_n hx hb dX11_rowFares_123 rfl (lv_at hl 0 rfl) ?_
      refine lv_iload_n hx hb dX11_rowFares_124 rfl (lv_at hl 1 rfl) ?_
      obtain ⟨q15, h_q15, h⟩ := bb h
      refine z_VI E F hw [.int x1] (k_X11_worthsWithout l D cy kc o0 x1 S3 h_q15 t_o0) t_o0 cf11 mk_X11_worthsWithout vk_X11_worthsWithout ml_X11_584 ⟨by decide, by decide⟩ rfl hl.1 rfl (Nat.le_of_ble_eq_true rfl) dX11_rowFares_125 ⟨Nat.zero_le _, Nat.zero_le _⟩ (fun H locs hw hG => ?_)
      have t_o0 := hG.t t_o0
      have hg := hg.tr hG
      refine lv_iload_n hx hb dX11_rowFares_128 rfl (lv_at hl 3 rfl) ?_
      refine lv_isub hx hb dX11_rowFares_129 ?_
      refine lv_goto (tgt := 134) hx hb dX11_rowFares_130 (by decide) ?_
      obtain rfl := Option.some.inj h
      exact r_I E hr hlk F hA hw hg dX11_rowFares_134
  have J33 : ∀ (w0 : Nat) (y1 : Int32) (S3 : PS) (H : Heap) (locs : List Loc) (ls : Array Slot), (f_X11_rowFares_33 o0 x1 x2 w0 y1 S3).bind some = some qq → Wd D cy A s H locs S3 → Gr S S3 → tD S3 o0 11 → tD S3 w0 11 → lv_has ls 5 [(0, .ref o0), (1, .int x1), (2, .int x2)] → W p l e (rmK 11 412 0 0) s m args below meth c H locs 0 0 (MQ below (QI D cy S qq.2 qq.1 s.heap.size) args s 0 0 A) (F0 m 33 ls [.int y1, .ref w0]) := by
    intro w0 y1 S3 H locs ls h hw hg t_o0 t_w0 hl
    rw [f_X11_rowFares_33] at h
    refine p_I E F hw t_w0 cf11 fk_X11_1 rfl rfl rfl dX11_rowFares_33 rfl (fun H locs hw => ?_)
    refine lv_aload_n hx hb dX11_rowFares_36 rfl (lv_at hl 0 rfl) ?_
    refine g_f E F hw t_o0 cf11 fk_X11_1 dX11_rowFares_37 rfl ?_
    refine lv_if_le (tgt := 45) hx hb dX11_rowFares_40 (by decide) (fun c17 => ?_) (fun c17 => ?_)
    · rw [if_pos c17] at h
      refine lv_aload_n hx hb dX11_rowFares_45 rfl (lv_at hl 0 rfl) ?_
      refine lv_aload_n hx hb dX11_rowFares_46 rfl (lv_at hl 0 rfl) ?_
      refine lv_iload_n hx hb dX11_rowFares_47 rfl (lv_at hl 1 rfl) ?_
      obtain ⟨q2, h_q2, h⟩ := bb h
      refine z_VI E F hw [.int x1] (k_X11_stoodAhead l D cy kc o0 x1 (pI S3 w0 0 y1) h_q2 t_o0) t_o0 cf11 mk_X11_stoodAhead vk_X11_stoodAhead ml_X11_581 ⟨by decide, by decide⟩ rfl hl.1 rfl (Nat.le_of_ble_eq_true rfl) dX11_rowFares_48 ⟨Nat.zero_le _, Nat.zero_le _⟩ (fun H locs hw hG => ?_)
      have t_o0 := hG.t t_o0
      have hg := hg.tr hG
      refine lv_aload_n hx hb dX11_rowFares_51 rfl (lv_at hl 0 rfl) ?_
      obtain ⟨b3, r_b3, h⟩ := bb h
      obtain ⟨r_b3, t_b3⟩ := rk_some r_b3
      refine g_R E F hw t_o0 cf11 fk_X11_151 dX11_rowFares_52 rfl r_b3 ?_
      refine lv_iload_n hx hb dX11_rowFares_55 rfl (lv_at hl 1 rfl) ?_
      obtain ⟨c4, h⟩ := bg h
      refine a_i E F hw t_b3 c4 dX11_rowFares_56 ?_
      obtain ⟨q5, h_q5, h⟩ := bb h
      refine z_VI E F hw [.int q2.1, .int (sI q2.2 b3 (Int32.toNatClampNeg x1))] (k_X11_costOf l D cy kc o0 q2.1 (sI q2.2 b3 (Int32.toNatClampNeg x1)) q2.2 h_q5 t_o0) t_o0 cf11 mk_X11_costOf vk_X11_costOf ml_X11_384 ⟨by decide, by decide⟩ rfl hl.1 rfl (Nat.le_of_ble_eq_true rfl) dX11_rowFares_57 ⟨Nat.zero_le _, Nat.zero_le _⟩ (fun H locs hw hG => ?_)
      have t_o0 := hG.t t_o0
      have hg := hg.tr hG
      refine lv_ineg hx hb dX11_rowFares_60 ?_
      refine lv_istore_n (lv' := [(3, .int (-q5.1)), (0, .ref o0), (1, .int x1), (2, .int x2)]) hx hb dX11_rowFares_61 rfl hl (by decide) rfl (fun ls hl => ?_)
      refine lv_iload_n hx hb dX11_rowFares_62 rfl (lv_at hl 2 rfl) ?_
      refine lv_istore (lv' := [(4, .int x1), (3, .int (-q5.1)), (0, .ref o0), (1, .int x1), (2, .int x2)]) hx hb dX11_rowFares_63 hl (by decide) rfl (fun ls hl => ?_)
      obtain ⟨y14, hy14, h⟩ := bb h
      refine L65 o0 x1 x2 fu (-q5.1) x1 q5.2 y14 hy14 _ _ _ hw (hg) t_o0 (lv_sub hl [2, 3, 4, 1, 0] rfl) (fun e0 S2 he H locs ls hw hG hl => ?_) (fun r he => ?_)
      · subst he
        have t_o0 := hG.t t_o0
        have hg := hg.tr hG
        exact J119 e0 S2 _ _ _ h hw hg t_o0 (lv_sub hl [0, 1, 2, 3] rfl)
      · subst he
        exact Option.some.inj h
    · rw [if_neg c17] at h
      refine lv_iconst (v := 0) hx hb dX11_rowFares_43 (by decide) ?_
      obtain rfl := Option.some.inj h
      exact r_I E hr hlk F hA hw hg dX11_rowFares_44
  rw [f_X11_rowFares] at h
  refine lv_aload_n hx hb dX11_rowFares_0 rfl (lv_at hl 0 rfl) ?_
  obtain ⟨q1, h_q1, h⟩ := bb h
  refine z_VV E F hw [] (k_X11_judges l D cy kc o0 S h_q1 t_o0) t_o0 cf11 mk_X11_judges vk_X11_judges ml_X11_576 ⟨by decide, by decide⟩ rfl hl.1 rfl (Nat.le_of_ble_eq_true rfl) dX11_rowFares_1 ⟨Nat.zero_le _, Nat.zero_le _⟩ (fun H locs hw hG => ?_)
  have t_o0 := hG.t t_o0
  have hg := hg.tr hG
  refine lv_aload_n hx hb dX11_rowFares_4 rfl (lv_at hl 0 rfl) ?_
  refine lv_iload_n hx hb dX11_rowFares_5 rfl (lv_at hl 1 rfl) ?_
  refine lv_if_lt (tgt := 32) hx hb dX11_rowFares_6 (by decide) (fun c22 => ?_) (fun c22 => ?_)
  · rw [if_pos c22] at h
    refine lv_iconst (v := 1) hx hb dX11_rowFares_32 (by decide) ?_
    exact J33 o0 (1 : Int32) q1.2 _ _ _ h hw hg t_o0 t_o0 (lv_sub hl [0, 1, 2] rfl)
  · rw [if_neg c22] at h
    refine lv_iload_n hx hb dX11_rowFares_9 rfl (lv_at hl 1 rfl) ?_
    refine lv_aload_n hx hb dX11_rowFares_10 rfl (lv_at hl 0 rfl) ?_
    refine g_f E F hw t_o0 cf11 fk_X11_555 dX11_rowFares_11 rfl ?_
    refine lv_icmp_ge (tgt := 32) hx hb dX11_rowFares_14 (by decide) (fun c21 => ?_) (fun c21 => ?_)
    · rw [if_pos c21] at h
      refine lv_iconst (v := 1) hx hb dX11_rowFares_32 (by decide) ?_
      exact J33 o0 (1 : Int32) q1.2 _ _ _ h hw hg t_o0 t_o0 (lv_sub hl [0, 1, 2] rfl)
    · rw [if_neg c21] at h
      refine lv_aload_n hx hb dX11_rowFares_17 rfl (lv_at hl 0 rfl) ?_
      obtain ⟨b18, r_b18, h⟩ := bb h
      obtain ⟨r_b18, t_b18⟩ := rk_some r_b18
      refine g_R E F hw t_o0 cf11 fk_X11_148 dX11_rowFares_18 rfl r_b18 ?_
      refine lv_iconst (v := 3) hx hb dX11_rowFares_21 (by decide) ?_
      refine lv_iload_n hx hb dX11_rowFares_22 rfl (lv_at hl 1 rfl) ?_
      refine lv_imul hx hb dX11_rowFares_23 ?_
      obtain ⟨c19, h⟩ := bg h
      refine a_i E F hw t_b18 c19 dX11_rowFares_24 ?_
      refine lv_if_lt (tgt := 32) hx hb dX11_rowFares_25 (by decide) (fun c20 => ?_) (fun c20 => ?_)
      · rw [if_pos c20] at h
        refine lv_iconst (v := 1) hx hb dX11_rowFares_32 (by decide) ?_
        exact J33 o0 (1 : Int32) q1.2 _ _ _ h hw hg t_o0 t_o0 (lv_sub hl [0, 1, 2] rfl)
      · rw [if_neg c20] at h
        refine lv_iconst (v := 0) hx hb dX11_rowFares_28 (by decide) ?_
        refine lv_goto (tgt := 33) hx hb dX11_rowFares_29 (by decide) ?_
        exact J33 o0 (0 : Int32) q1.2 _ _ _ h hw hg t_o0 t_o0 (lv_sub hl [0, 1, 2] rfl)
