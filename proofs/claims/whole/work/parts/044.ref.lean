def f_X11_present_170b97 (o0 : Nat) (x1 : Int32) (x2 : Int32) (x3 : Int32) (x4 : Int32) (x10 : Int32) (x11 : Int32) (z12 : Int32) (z13 : Int64) (S3 : PS) : Option ((Int32 × Int32 × Int32 × Int64 × Int32 × PS) ⊕ ((Int64 × PS) ⊕ (Int32 × Int32 × Int32 × Int64 × PS))) :=
  some (.inl (x11, (z12 / (6 : Int32)), (z12 - z12 / (6 : Int32) * (6 : Int32)), z13, z12 + 1, S3))
def f_X11_present_b97 (o0 : Nat) (x1 : Int32) (x2 : Int32) (x3 : Int32) (x4 : Int32) (x10 : Int32) (x11 : Int32) (x5 : Int32) (x6 : Int32) (x7 : Int32) (x8 : Int64) (x12 : Int32) (S1 : PS) : Option ((Int32 × Int32 × Int32 × Int64 × Int32 × PS) ⊕ ((Int64 × PS) ⊕ (Int32 × Int32 × Int32 × Int64 × PS))) :=
  (if (24 : Int32) ≤ x12 then some (.inr (.inr (x5, x6, x7, x8, S1))) else (if x11 < 0 then some (.inr (.inr (x5, x6, x7, x8, S1))) else (f_X11_isOther o0 (x12 / (6 : Int32)) (x12 - x12 / (6 : Int32) * (6 : Int32)) S1).bind fun q4 => (if q4.1 = 0 then some (.inl (x5, x6, x7, x8, x12 + 1, q4.2)) else (f_X11_gainOf o0 x1 x2 x3 x11 (x12 / (6 : Int32)) (x12 - x12 / (6 : Int32) * (6 : Int32)) q4.2).bind fun q5 => (f_X11_priceOf o0 x1 x2 x3 x11 q5.2).bind fun q6 => (if x5 < 0 then f_X11_present_170b97 o0 x1 x2 x3 x4 x10 x11 x12 (q5.1 - q6.1) q6.2 else (if (lg_cmp (q5.1 - q6.1) x8) ≤ 0 then some (.inl (x5, x6, x7, x8, x12 + 1, q6.2)) else f_X11_present_170b97 o0 x1 x2 x3 x4 x10 x11 x12 (q5.1 - q6.1) q6.2)))))
def f_X11_present_198b77 (o0 : Nat) (x1 : Int32) (x2 : Int32) (x3 : Int32) (x4 : Int32) (z5 : Int32) (z6 : Int32) (z7 : Int32) (z8 : Int64) (z10 : Int32) (S3 : PS) : Option ((Int32 × Int32 × Int32 × Int64 × Int32 × PS) ⊕ ((Int64 × PS) ⊕ (Int32 × Int32 × Int32 × Int64 × PS))) :=
  some (.inl (z5, z6, z7, z8, z10 + 1, S3))
def f_X11_present_b77 (o0 : Nat) (x1 : Int32) (x2 : Int32) (x3 : Int32) (x4 : Int32) (x5 : Int32) (x6 : Int32) (x7 : Int32) (x8 : Int64) (x10 : Int32) (S1 : PS) : Option ((Int32 × Int32 × Int32 × Int64 × Int32 × PS) ⊕ ((Int64 × PS) ⊕ (Int32 × Int32 × Int32 × Int64 × PS))) :=
  (if (10 : Int32) ≤ x10 then some (.inr (.inr (x5, x6, x7, x8, S1))) else (f_X11_act o0 x1 x3 x10 S1).bind fun q3 => (loopN (fun a => f_X11_present_b97 o0 x1 x2 x3 x4 x10 q3.1 a.1 a.2.1 a.2.2.1 a.2.2.2.1 a.2.2.2.2.1 a.2.2.2.2.2) fu (x5, x6, x7, x8, (0 : Int32), q3.2)).bind (Sum.elim (fun r => some (.inr (.inl r))) (fun a => f_X11_present_198b77 o0 x1 x2 x3 x4 a.1 a.2.1 a.2.2.1 a.2.2.2.1 x10 a.2.2.2.2)))
def f_X11_present_204 (o0 : Nat) (x1 : Int32) (x4 : Int32) (z5 : Int32) (z6 : Int32) (z7 : Int32) (z8 : Int64) (S3 : PS) : Option (Int64 × PS) :=
  (f_X11_partsOf o0 x1 S3).bind fun q15 => (f_X11_sets o0 z8 q15.1 q15.2).bind fun q16 => (if x4 = 0 then some ((Int32.toInt64 z5), q16.2) else (if x4 = (1 : Int32) then some ((Int32.toInt64 z6), q16.2) else (if x4 = (2 : Int32) then some ((Int32.toInt64 z7), q16.2) else (f_X11_partFound o0 (x4 - (3 : Int32)) q16.2).bind fun q17 => some (q17.1, q17.2))))
def f_X11_present_46 (o0 : Nat) (x1 : Int32) (x2 : Int32) (x3 : Int32) (x4 : Int32) (w0 : Nat) (y1 : Int32) (S3 : PS) : Option (Int64 × PS) :=
  (if (sI (pI S3 w0 0 y1) o0 0) ≤ 0 then (f_X11_find o0 (pI S3 w0 0 y1)).bind fun q2 => (loopN (fun a => f_X11_present_b77 o0 x1 x2 x3 x4 a.1 a.2.1 a.2.2.1 a.2.2.2.1 a.2.2.2.2.1 a.2.2.2.2.2) fu ((-1 : Int32), (-1 : Int32), (-1 : Int32), (0 : Int64), (0 : Int32), q2.2)).bind (Sum.elim (fun r => some r) (fun a => f_X11_present_204 o0 x1 x4 a.1 a.2.1 a.2.2.1 a.2.2.2.1 a.2.2.2.2)) else some ((0 : Int64), pI S3 w0 0 y1))
def f_X11_present (o0 : Nat) (x1 : Int32) (x2 : Int32) (x3 : Int32) (x4 : Int32) (S : PS) : Option (Int64 × PS) :=
  (f_X11_isOne o0 x1 x2 x3 S).bind fun q1 => (if q1.1 = 0 then f_X11_present_46 o0 x1 x2 x3 x4 o0 (1 : Int32) q1.2 else (rk q1.2 (sR q1.2 o0 10) 13).bind fun b22 => if ib ((61 : Int32) + x1) (sN q1.2 b22) = true then (if (sI q1.2 b22 (Int32.toNatClampNeg ((61 : Int32) + x1))) = 0 then (f_X11_life o0 q1.2).bind fun q24 => (if q24.1 ≤ (1 : Int32) then f_X11_present_46 o0 x1 x2 x3 x4 o0 (1 : Int32) q24.2 else (f_X11_within x4 (0 : Int32) (4 : Int32) q24.2).bind fun q25 => (if q25.1 = 0 then f_X11_present_46 o0 x1 x2 x3 x4 o0 (1 : Int32) q25.2 else f_X11_present_46 o0 x1 x2 x3 x4 o0 (0 : Int32) q25.2)) else f_X11_present_46 o0 x1 x2 x3 x4 o0 (1 : Int32) q1.2) else none)
set_option maxHeartbeats 4000000 in
set_option maxRecDepth 100000 in
theorem k_X11_present (l : Launch) (D : va_G) (cy : Nat → ClassId) (kc : Nat → Nat) (o0 : Nat) (x1 : Int32) (x2 : Int32) (x3 : Int32) (x4 : Int32) (S : PS) {qq : Int64 × PS} (h : f_X11_present o0 x1 x2 x3 x4 S = some qq) (t_o0 : tD S o0 11) : KJ l D cy kc yX11_present cX11_present 15 (rmK 12 451 0 0) [.ref o0, .int x1, .int x2, .int x3, .int x4] S qq.1 qq.2 := by
  refine K_body (Qc := QJ D cy S qq.2 qq.1) (by decide) (Nat.le_of_ble_eq_true rfl) ?_
  intro p e s m below meth c A ls args E hr hlk hnm hA F hw hl
  have hx := E.1
  have hb := E.2.1
  have hl : lv_has ls 15 [(0, .ref o0), (1, .int x1), (2, .int x2), (3, .int x3), (4, .int x4)] := hl
  have hg : Gr S S := Gr.rf
  replace h : (f_X11_present o0 x1 x2 x3 x4 S).bind some = some qq := by rw [h]; rfl
  have L97 : ∀ (o0 : Nat) (x1 : Int32) (x2 : Int32) (x3 : Int32) (x4 : Int32) (x10 : Int32) (x11 : Int32) (n : Nat) (x5 : Int32) (x6 : Int32) (x7 : Int32) (x8 : Int64) (x12 : Int32) (S1 : PS) (o : (Int64 × PS) ⊕ (Int32 × Int32 × Int32 × Int64 × PS)), loopN (fun a => f_X11_present_b97 o0 x1 x2 x3 x4 x10 x11 a.1 a.2.1 a.2.2.1 a.2.2.2.1 a.2.2.2.2.1 a.2.2.2.2.2) n (x5, x6, x7, x8, x12, S1) = some o → ∀ (H : Heap) (locs : List Loc) (ls : Array Slot), Wd D cy A s H locs S1 → Gr S S1 → tD S1 o0 11 → lv_has ls 15 [(0, .ref o0), (1, .int x1), (2, .int x2), (3, .int x3), (4, .int x4), (5, .int x5), (6, .int x6), (7, .int x7), (8, .long x8), (10, .int x10), (11, .int x11), (12, .int x12)] → (∀ (e0 : Int32) (e1 : Int32) (e2 : Int32) (e3 : Int64) (S2 : PS), o = .inr (e0, e1, e2, e3, S2) → ∀ (H : Heap) (locs : List Loc) (ls : Array Slot), Wd D cy A s H locs S2 → Gr S1 S2 → lv_has ls 15 [(0, .ref o0), (1, .int x1), (2, .int x2), (3, .int x3), (4, .int x4), (5, .int e0), (6, .int e1), (7, .int e2), (8, .long e3), (10, .int x10)] → W p l e (rmK 12 451 0 0) s m args below meth c H locs 0 0 (MQ below (QJ D cy S qq.2 qq.1 s.heap.size) args s 0 0 A) (F0 m 198 ls [])) → (∀ q9, o = .inl q9 → q9 = qq) → W p l e (rmK 12 451 0 0) s m args below meth c H locs 0 0 (MQ below (QJ D cy S qq.2 qq.1 s.heap.size) args s 0 0 A) (F0 m 97 ls []) := by
    intro o0 x1 x2 x3 x4 x10 x11 n
    induction n with
    | zero => intro x5 x6 x7 x8 x12 S1 o h; exact absurd h (by simp [loopN])
    | succ n ih =>
      intro x5 x6 x7 x8 x12 S1 o h H locs ls hw hG0 t_o0 hl hx2 hq2
      have hg : Gr S1 S1 := Gr.rf
      replace h : (f_X11_present_b97 o0 x1 x2 x3 x4 x10 x11 x5 x6 x7 x8 x12 S1).bind (Sum.elim (loopN (fun a => f_X11_present_b97 o0 x1 x2 x3 x4 x10 x11 a.1 a.2.1 a.2.2.1 a.2.2.2.1 a.2.2.2.2.1 a.2.2.2.2.2) n) some) = some o := h
      have J170 : ∀ (z12 : Int32) (z13 : Int64) (S3 : PS) (H : Heap) (locs : List Loc) (ls : Array Slot), (f_X11_present_170b97 o0 x1 x2 x3 x4 x10 x11 z12 z13 S3).bind (Sum.elim (loopN (fun a => f_X11_present_b97 o0 x1 x2 x3 x4 x10 x11 a.1 a.2.1 a.2.2.1 a.2.2.2.1 a.2.2.2.2.1 a.2.2.2.2.2) n) some) = some o → Wd D cy A s H locs S3 → Gr S1 S3 → tD S3 o0 11 → lv_has ls 15 [(0, .ref o0), (1, .int x1), (2, .int x2), (3, .int x3), (4, .int x4), (10, .int x10), (11, .int x11), (12, .int z12), (13, .long z13)] → W p l e (rmK 12 451 0 0) s m args below meth c H locs 0 0 (MQ below (QJ D cy S qq.2 qq.1 s.heap.size) args s 0 0 A) (F0 m 170 ls []) := by
        intro z12 z13 S3 H locs ls h hw hg t_o0 hl
        rw [f_X11_present_170b97] at h
        refine lv_lload hx hb dX11_present_170 (lv_at hl 8 rfl) ?_
        refine lv_lstore (lv' := [(8, .long z13), (0, .ref o0), (1, .int x1), (2, .int x2), (3, .int x3), (4, .int x4), (10, .int x10), (11, .int x11), (12, .int z12), (13, .long z13)]) hx hb dX11_present_172 hl (by decide) rfl (fun ls hl => ?_)
        refine lv_iload hx hb dX11_present_174 (lv_at hl 7 rfl) ?_
        refine lv_istore (lv' := [(5, .int x11), (8, .long z13), (0, .ref o0), (1, .int x1), (2, .int x2), (3, .int x3), (4, .int x4), (10, .int x10), (11, .int x11), (12, .int z12), (13, .long z13)]) hx hb dX11_present_176 hl (by decide) rfl (fun ls hl => ?_)
        refine lv_iload hx hb dX11_present_178 (lv_at hl 9 rfl) ?_
        refine lv_bipush (v := 6) hx hb dX11_present_180 (by decide) ?_
        refine lv_idiv hx hb dX11_present_182 (by decide) ?_
        refine lv_istore (lv' := [(6, .int (z12 / (6 : Int32))), (5, .int x11), (8, .long z13), (0, .ref o0), (1, .int x1), (2, .int x2), (3, .int x3), (4, .int x4), (10, .int x10), (11, .int x11), (12, .int z12), (13, .long z13)]) hx hb dX11_present_183 hl (by decide) rfl (fun ls hl => ?_)
        refine lv_iload hx hb dX11_present_185 (lv_at hl 10 rfl) ?_
        refine lv_bipush (v := 6) hx hb dX11_present_187 (by decide) ?_
        refine lv_irem hx hb dX11_present_189 (by decide) ?_
        refine lv_istore (lv' := [(7, .int (z12 - z12 / (6 : Int32) * (6 : Int32))), (6, .int (z12 / (6 : Int32))), (5, .int x11), (8, .long z13), (0, .ref o0), (1, .int x1), (2, .int x2), (3, .int x3), (4, .int x4), (10, .int x10), (11, .int x11), (12, .int z12), (13, .long z13)]) hx hb dX11_present_190 hl (by decide) rfl (fun ls hl => ?_)
        refine lv_iinc (v := z12 + 1) (lv' := [(12, .int (z12 + 1)), (7, .int (z12 - z12 / (6 : Int32) * (6 : Int32))), (6, .int (z12 / (6 : Int32))), (5, .int x11), (8, .long z13), (0, .ref o0), (1, .int x1), (2, .int x2), (3, .int x3), (4, .int x4), (10, .int x10), (11, .int x11), (13, .long z13)]) hx hb dX11_present_192 hl (k := 11) rfl rfl (by decide) rfl (fun ls hl => ?_)
        refine lv_goto (tgt := 97) hx hb dX11_present_195 (by decide) ?_
        exact ih x11 (z12 / (6 : Int32)) (z12 - z12 / (6 : Int32) * (6 : Int32)) z13 (z12 + 1) S3 _ h _ _ _ hw (hG0.tr hg) t_o0 (lv_sub hl [5, 6, 7, 8, 9, 3, 2, 1, 4, 10, 11, 0] rfl) (fun e0 e1 e2 e3 S2 he H locs ls hw hG hl => hx2 e0 e1 e2 e3 S2 he H locs ls hw (hg.tr hG) hl) hq2
      rw [f_X11_present_b97] at h
      refine lv_iload hx hb dX11_present_97 (lv_at hl 11 rfl) ?_
      refine lv_bipush (v := 24) hx hb dX11_present_99 (by decide) ?_
      refine lv_icmp_ge (tgt := 198) hx hb dX11_present_101 (by decide) (fun c11 => ?_) (fun c11 => ?_)
      · rw [if_pos c11] at h
        obtain rfl := Option.some.inj h
        exact hx2 x5 x6 x7 x8 S1 rfl _ _ _ hw hg (lv_sub hl [0, 1, 2, 3, 4, 5, 6, 7, 8, 9] rfl)
      · rw [if_neg c11] at h
        refine lv_iload hx hb dX11_present_104 (lv_at hl 10 rfl) ?_
        refine lv_if_lt (tgt := 198) hx hb dX11_present_106 (by decide) (fun c10 => ?_) (fun c10 => ?_)
        · rw [if_pos c10] at h
          obtain rfl := Option.some.inj h
          exact hx2 x5 x6 x7 x8 S1 rfl _ _ _ hw hg (lv_sub hl [0, 1, 2, 3, 4, 5, 6, 7, 8, 9] rfl)
        · rw [if_neg c10] at h
          refine lv_aload_n hx hb dX11_present_109 rfl (lv_at hl 0 rfl) ?_
          refine lv_iload hx hb dX11_present_110 (lv_at hl 11 rfl) ?_
          refine lv_bipush (v := 6) hx hb dX11_present_112 (by decide) ?_
          refine lv_idiv hx hb dX11_present_114 (by decide) ?_
          refine lv_iload hx hb dX11_present_115 (lv_at hl 11 rfl) ?_
          refine lv_bipush (v := 6) hx hb dX11_present_117 (by decide) ?_
          refine lv_irem hx hb dX11_present_119 (by decide) ?_
          obtain ⟨q4, h_q4, h⟩ := bb h
          refine z_VI E F hw [.int (x12 / (6 : Int32)), .int (x12 - x12 / (6 : Int32) * (6 : Int32))] (k_X11_isOther l D cy kc o0 (x12 / (6 : Int32)) (x12 - x12 / (6 : Int32) * (6 : Int32)) S1 h_q4 t_o0) t_o0 cf11 mk_X11_isOther vk_X11_isOther ml_X11_477 ⟨by decide, by decide⟩ rfl hl.1 rfl (Nat.le_of_ble_eq_true rfl) dX11_present_120 ⟨Nat.zero_le _, Nat.zero_le _⟩ (fun H locs hw hG => ?_)
          have t_o0 := hG.t t_o0
          have hg := hg.tr hG
          refine lv_if_eq (tgt := 192) hx hb dX11_present_123 (by decide) (fun c9 => ?_) (fun c9 => ?_)
          · rw [if_pos c9] at h
            refine lv_iinc (v := x12 + 1) (lv' := [(12, .int (x12 + 1)), (0, .ref o0), (1, .int x1), (2, .int x2), (3, .int x3), (4, .int x4), (5, .int x5), (6, .int x6), (7, .int x7), (8, .long x8), (10, .int x10), (11, .int x11)]) hx hb dX11_present_192 hl (k := 11) rfl rfl (by decide) rfl (fun ls hl => ?_)
            refine lv_goto (tgt := 97) hx hb dX11_present_195 (by decide) ?_
            exact ih x5 x6 x7 x8 (x12 + 1) q4.2 _ h _ _ _ hw (hG0.tr hg) t_o0 (lv_sub hl [1, 2, 3, 4, 5, 6, 7, 8, 9, 10, 11, 0] rfl) (fun e0 e1 e2 e3 S2 he H locs ls hw hG hl => hx2 e0 e1 e2 e3 S2 he H locs ls hw (hg.tr hG) hl) hq2
          · rw [if_neg c9] at h
            refine lv_aload_n hx hb dX11_present_126 rfl (lv_at hl 0 rfl) ?_
            refine lv_iload_n hx hb dX11_present_127 rfl (lv_at hl 1 rfl) ?_
            refine lv_iload_n hx hb dX11_present_128 rfl (lv_at hl 2 rfl) ?_
            refine lv_iload_n hx hb dX11_present_129 rfl (lv_at hl 3 rfl) ?_
            refine lv_iload hx hb dX11_present_130 (lv_at hl 10 rfl) ?_
            refine lv_iload hx hb dX11_present_132 (lv_at hl 11 rfl) ?_
            refine lv_bipush (v := 6) hx hb dX11_present_134 (by decide) ?_
            refine lv_idiv hx hb dX11_present_136 (by decide) ?_
            refine lv_iload hx hb dX11_present_137 (lv_at hl 11 rfl) ?_
            refine lv_bipush (v := 6) hx hb dX11_present_139 (by decide) ?_
            refine lv_irem hx hb dX11_present_141 (by decide) ?_
            obtain ⟨q5, h_q5, h⟩ := bb h
            refine z_VJ E F hw [.int x1, .int x2, .int x3, .int x11, .int (x12 / (6 : Int32)), .int (x12 - x12 / (6 : Int32) * (6 : Int32))] (k_X11_gainOf l D cy kc o0 x1 x2 x3 x11 (x12 / (6 : Int32)) (x12 - x12 / (6 : Int32) * (6 : Int32)) q4.2 h_q5 t_o0) t_o0 cf11 mk_X11_gainOf vk_X11_gainOf ml_X11_480 ⟨by decide, by decide⟩ rfl hl.1 rfl (Nat.le_of_ble_eq_true rfl) dX11_present_142 ⟨Nat.zero_le _, Nat.zero_le _⟩ (fun H locs hw hG => ?_)
            have t_o0 := hG.t t_o0
            have hg := hg.tr hG
            refine lv_aload_n hx hb dX11_present_145 rfl (lv_at hl 0 rfl) ?_
            refine lv_iload_n hx hb dX11_present_146 rfl (lv_at hl 1 rfl) ?_
            refine lv_iload_n hx hb dX11_present_147 rfl (lv_at hl 2 rfl) ?_
            refine lv_iload_n hx hb dX11_present_148 rfl (lv_at hl 3 rfl) ?_
            refine lv_iload hx hb dX11_present_149 (lv_at hl 10 rfl) ?_
            obtain ⟨q6, h_q6, h⟩ := bb h
            refine z_VJ E F hw [.int x1, .int x2, .int x3, .int x11] (k_X11_priceOf l D cy kc o0 x1 x2 x3 x11 q5.2 h_q6 t_o0) t_o0 cf11 mk_X11_priceOf vk_X11_priceOf ml_X11_474 ⟨by decide, by decide⟩ rfl hl.1 rfl (Nat.le_of_ble_eq_true rfl) dX11_present_151 ⟨Nat.zero_le _, Nat.zero_le _⟩ (fun H locs hw hG => ?_)
            have t_o0 := hG.t t_o0
            have hg := hg.tr hG
            refine lv_lsub hx hb dX11_present_154 ?_
            refine lv_lstore (lv' := [(13, .long (q5.1 - q6.1)), (0, .ref o0), (1, .int x1), (2, .int x2), (3, .int x3), (4, .int x4), (5, .int x5), (6, .int x6), (7, .int x7), (8, .long x8), (10, .int x10), (11, .int x11), (12, .int x12)]) hx hb dX11_present_155 hl (by decide) rfl (fun ls hl => ?_)
            refine lv_iload hx hb dX11_present_157 (lv_at hl 6 rfl) ?_
            refine lv_if_lt (tgt := 170) hx hb dX11_present_159 (by decide) (fun c8 => ?_) (fun c8 => ?_)
            · rw [if_pos c8] at h
              exact J170 x12 (q5.1 - q6.1) q6.2 _ _ _ h hw hg t_o0 (lv_sub hl [1, 2, 3, 4, 5, 10, 11, 12, 0] rfl)
            · rw [if_neg c8] at h
              refine lv_lload hx hb dX11_present_162 (lv_at hl 0 rfl) ?_
              refine lv_lload hx hb dX11_present_164 (lv_at hl 9 rfl) ?_
              refine W.lcmp hx hb dX11_present_166 ?_
              refine lv_if_le (tgt := 192) hx hb dX11_present_167 (by decide) (fun c7 => ?_) (fun c7 => ?_)
              · rw [if_pos c7] at h
                refine lv_iinc (v := x12 + 1) (lv' := [(12, .int (x12 + 1)), (13, .long (q5.1 - q6.1)), (0, .ref o0), (1, .int x1), (2, .int x2), (3, .int x3), (4, .int x4), (5, .int x5), (6, .int x6), (7, .int x7), (8, .long x8), (10, .int x10), (11, .int x11)]) hx hb dX11_present_192 hl (k := 12) rfl rfl (by decide) rfl (fun ls hl => ?_)
                refine lv_goto (tgt := 97) hx hb dX11_present_195 (by decide) ?_
                exact ih x5 x6 x7 x8 (x12 + 1) q6.2 _ h _ _ _ hw (hG0.tr hg) t_o0 (lv_sub hl [2, 3, 4, 5, 6, 7, 8, 9, 10, 11, 12, 0] rfl) (fun e0 e1 e2 e3 S2 he H locs ls hw hG hl => hx2 e0 e1 e2 e3 S2 he H locs ls hw (hg.tr hG) hl) hq2
              · rw [if_neg c7] at h
                exact J170 x12 (q5.1 - q6.1) q6.2 _ _ _ h hw hg t_o0 (lv_sub hl [1, 2, 3, 4, 5, 10, 11, 12, 0] rfl)
  have L77 : ∀ (o0 : Nat) (x1 : Int32) (x2 : Int32) (x3 : Int32) (x4 : Int32) (n : Nat) (x5 : Int32) (x6 : Int32) (x7 : Int32) (x8 : Int64) (x10 : Int32) (S1 : PS) (o : (Int64 × PS) ⊕ (Int32 × Int32 × Int32 × Int64 × PS)), loopN (fun a => f_X11_present_b77 o0 x1 x2 x3 x4 a.1 a.2.1 a.2.2.1 a.2.2.2.1 a.2.2.2.2.1 a.2.2.2.2.2) n (x5, x6, x7, x8, x10, S1) = some o → ∀ (H : Heap) (locs : List Loc) (ls : Array Slot), Wd D cy A s H locs S1 → Gr S S1 → tD S1 o0 11 → lv_has ls 15 [(0, .ref o0), (1, .int x1), (2, .int x2), (3, .int x3), (4, .int x4), (5, .int x5), (6, .int x6), (7, .int x7), (8, .long x8), (10, .int x10)] → (∀ (e0 : Int32) (e1 : Int32) (e2 : Int32) (e3 : Int64) (S2 : PS), o = .inr (e0, e1, e2, e3, S2) → ∀ (H : Heap) (locs : List Loc) (ls : Array Slot), Wd D cy A s H locs S2 → Gr S1 S2 → lv_has ls 15 [(0, .ref o0), (1, .int x1), (4, .int x4), (5, .int e0), (6, .int e1), (7, .int e2), (8, .long e3)] → W p l e (rmK 12 451 0 0) s m args below meth c H locs 0 0 (MQ below (QJ D cy S qq.2 qq.1 s.heap.size) args s 0 0 A) (F0 m 204 ls [])) → (∀ q9, o = .inl q9 → q9 = qq) → W p l e (rmK 12 451 0 0) s m args below meth c H locs 0 0 (MQ below (QJ D cy S qq.2 qq.1 s.heap.size) args s 0 0 A) (F0 m 77 ls []) := by
    intro o0 x1 x2 x3 x4 n
    induction n with
    | zero => intro x5 x6 x7 x8 x10 S1 o h; exact absurd h (by simp [loopN])
    | succ n ih =>
      intro x5 x6 x7 x8 x10 S1 o h H locs ls hw hG0 t_o0 hl hx2 hq2
      have hg : Gr S1 S1 := Gr.rf
      replace h : (f_X11_present_b77 o0 x1 x2 x3 x4 x5 x6 x7 x8 x10 S1).bind (Sum.elim (loopN (fun a => f_X11_present_b77 o0 x1 x2 x3 x4 a.1 a.2.1 a.2.2.1 a.2.2.2.1 a.2.2.2.2.1 a.2.2.2.2.2) n) some) = some o := h
      have J198 : ∀ (z5 : Int32) (z6 : Int32) (z7 : Int32) (z8 : Int64) (z10 : Int32) (S3 : PS) (H : Heap) (locs : List Loc) (ls : Array Slot), (f_X11_present_198b77 o0 x1 x2 x3 x4 z5 z6 z7 z8 z10 S3).bind (Sum.elim (loopN (fun a => f_X11_present_b77 o0 x1 x2 x3 x4 a.1 a.2.1 a.2.2.1 a.2.2.2.1 a.2.2.2.2.1 a.2.2.2.2.2) n) some) = some o → Wd D cy A s H locs S3 → Gr S1 S3 → tD S3 o0 11 → lv_has ls 15 [(0, .ref o0), (1, .int x1), (2, .int x2), (3, .int x3), (4, .int x4), (5, .int z5), (6, .int z6), (7, .int z7), (8, .long z8), (10, .int z10)] → W p l e (rmK 12 451 0 0) s m args below meth c H locs 0 0 (MQ below (QJ D cy S qq.2 qq.1 s.heap.size) args s 0 0 A) (F0 m 198 ls []) := by
        intro z5 z6 z7 z8 z10 S3 H locs ls h hw hg t_o0 hl
        rw [f_X11_present_198b77] at h
        refine lv_iinc (v := z10 + 1) (lv' := [(10, .int (z10 + 1)), (0, .ref o0), (1, .int x1), (2, .int x2), (3, .int x3), (4, .int x4), (5, .int z5), (6, .int z6), (7, .int z7), (8, .long z8)]) hx hb dX11_present_198 hl (k := 9) rfl rfl (by decide) rfl (fun ls hl => ?_)
        refine lv_goto (tgt := 77) hx hb dX11_present_201 (by decide) ?_
        exact ih z5 z6 z7 z8 (z10 + 1) S3 _ h _ _ _ hw (hG0.tr hg) t_o0 (lv_sub hl [1, 2, 3, 4, 5, 6, 7, 8, 9, 0] rfl) (fun e0 e1 e2 e3 S2 he H locs ls hw hG hl => hx2 e0 e1 e2 e3 S2 he H locs ls hw (hg.tr hG) hl) hq2
      rw [f_X11_present_b77] at h
      refine lv_iload hx hb dX11_present_77 (lv_at hl 9 rfl) ?_
      refine lv_bipush (v := 10) hx hb dX11_present_79 (by decide) ?_
      refine lv_icmp_ge (tgt := 204) hx hb dX11_present_81 (by decide) (fun c13 => ?_) (fun c13 => ?_)
      · rw [if_pos c13] at h
        obtain rfl := Option.some.inj h
        exact hx2 x5 x6 x7 x8 S1 rfl _ _ _ hw hg (lv_sub hl [0, 1, 4, 5, 6, 7, 8] rfl)
      · rw [if_neg c13] at h
        refine lv_aload_n hx hb dX11_present_84 rfl (lv_at hl 0 rfl) ?_
        refine lv_iload_n hx hb dX11_present_85 rfl (lv_at hl 1 rfl) ?_
        refine lv_iload_n hx hb dX11_present_86 rfl (lv_at hl 3 rfl) ?_
        refine lv_iload hx hb dX11_present_87 (lv_at hl 9 rfl) ?_
        obtain ⟨q3, h_q3, h⟩ := bb h
        refine z_VI E F hw [.int x1, .int x3, .int x10] (k_X11_act l D cy kc o0 x1 x3 x10 S1 h_q3 t_o0) t_o0 cf11 mk_X11_act vk_X11_act ml_X11_387 ⟨by decide, by decide⟩ rfl hl.1 rfl (Nat.le_of_ble_eq_true rfl) dX11_present_89 ⟨Nat.zero_le _, Nat.zero_le _⟩ (fun H locs hw hG => ?_)
        have t_o0 := hG.t t_o0
        have hg := hg.tr hG
        refine lv_istore (lv' := [(11, .int q3.1), (0, .ref o0), (1, .int x1), (2, .int x2), (3, .int x3), (4, .int x4), (5, .int x5), (6, .int x6), (7, .int x7), (8, .long x8), (10, .int x10)]) hx hb dX11_present_92 hl (by decide) rfl (fun ls hl => ?_)
        refine lv_iconst (v := 0) hx hb dX11_present_94 (by decide) ?_
        refine lv_istore (lv' := [(12, .int (0 : Int32)), (11, .int q3.1), (0, .ref o0), (1, .int x1), (2, .int x2), (3, .int x3), (4, .int x4), (5, .int x5), (6, .int x6), (7, .int x7), (8, .long x8), (10, .int x10)]) hx hb dX11_present_95 hl (by decide) rfl (fun ls hl => ?_)
        obtain ⟨y12, hy12, h⟩ := bb h
        refine L97 o0 x1 x2 x3 x4 x10 q3.1 fu x5 x6 x7 x8 (0 : Int32) q3.2 y12 hy12 _ _ _ hw (hG0.tr hg) t_o0 (lv_sub hl [2, 3, 4, 5, 6, 7, 8, 9, 10, 11, 1, 0] rfl) (fun e0 e1 e2 e3 S2 he H locs ls hw hG hl => ?_) (fun r he => ?_)
        · subst he
          have t_o0 := hG.t t_o0
          have hg := hg.tr hG
          exact J198 e0 e1 e2 e3 x10 S2 _ _ _ h hw hg t_o0 (lv_sub hl [0, 1, 2, 3, 4, 5, 6, 7, 8, 9] rfl)
        · subst he
          exact hq2 r (Option.some.inj h).symm
  have J204 : ∀ (z5 : Int32) (z6 : Int32) (z7 : Int32) (z8 : Int64) (S3 : PS) (H : Heap) (locs : List Loc) (ls : Array Slot), (f_X11_present_204 o0 x1 x4 z5 z6 z7 z8 S3).bind some = some qq → Wd D cy A s H locs S3 → Gr S S3 → tD S3 o0 11 → lv_has ls 15 [(0, .ref o0), (1, .int x1), (4, .int x4), (5, .int z5), (6, .int z6), (7, .int z7), (8, .long z8)] → W p l e (rmK 12 451 0 0) s m args below meth c H locs 0 0 (MQ below (QJ D cy S qq.2 qq.1 s.heap.size) args s 0 0 A) (F0 m 204 ls []) := by
    intro z5 z6 z7 z8 S3 H locs ls h hw hg t_o0 hl
    rw [f_X11_present_204] at h
    refine lv_aload_n hx hb dX11_present_204 rfl (lv_at hl 0 rfl) ?_
    refine lv_lload hx hb dX11_present_205 (lv_at hl 6 rfl) ?_
    refine lv_aload_n hx hb dX11_present_207 rfl (lv_at hl 0 rfl) ?_
    refine lv_iload_n hx hb dX11_present_208 rfl (lv_at hl 1 rfl) ?_
    obtain ⟨q15, h_q15, h⟩ := bb h
    refine z_VJ E F hw [.int x1] (k_X11_partsOf l D cy kc o0 x1 S3 h_q15 t_o0) t_o0 cf11 mk_X11_partsOf vk_X11_partsOf ml_X11_442 ⟨by decide, by decide⟩ rfl hl.1 rfl (Nat.le_of_ble_eq_true rfl) dX11_present_209 ⟨Nat.zero_le _, Nat.zero_le _⟩ (fun H locs hw hG => ?_)
    have t_o0 := hG.t t_o0
    have hg := hg.tr hG
    obtain ⟨q16, h_q16, h⟩ := bb h
    refine z_VV E F hw [.long z8, .long q15.1] (k_X11_sets l D cy kc o0 z8 q15.1 q15.2 h_q16 t_o0) t_o0 cf11 mk_X11_sets vk_X11_sets ml_X11_446 ⟨by decide, by decide⟩ rfl hl.1 rfl (Nat.le_of_ble_eq_true rfl) dX11_present_212 ⟨Nat.zero_le _, Nat.zero_le _⟩ (fun H locs hw hG => ?_)
    have t_o0 := hG.t t_o0
    have hg := hg.tr hG
    refine lv_iload hx hb dX11_present_215 (lv_at hl 2 rfl) ?_
    refine lv_if_ne (tgt := 226) hx hb dX11_present_217 (by decide) (fun c20 => ?_) (fun c20 => ?_)
    · rw [if_neg c20] at h
      refine lv_iload hx hb dX11_present_226 (lv_at hl 2 rfl) ?_
      refine lv_iconst (v := 1) hx hb dX11_present_228 (by decide) ?_
      refine lv_icmp_ne (tgt := 238) hx hb dX11_present_229 (by decide) (fun c19 => ?_) (fun c19 => ?_)
      · rw [if_neg c19] at h
        refine lv_iload hx hb dX11_present_238 (lv_at hl 2 rfl) ?_
        refine lv_iconst (v := 2) hx hb dX11_present_240 (by decide) ?_
        refine lv_icmp_ne (tgt := 250) hx hb dX11_present_241 (by decide) (fun c18 => ?_) (fun c18 => ?_)
        · rw [if_neg c18] at h
          refine lv_aload_n hx hb dX11_present_250 rfl (lv_at hl 0 rfl) ?_
          refine lv_iload hx hb dX11_present_251 (lv_at hl 2 rfl) ?_
          refine lv_iconst (v := 3) hx hb dX11_present_253 (by decide) ?_
          refine lv_isub hx hb dX11_present_254 ?_
          obtain ⟨q17, h_q17, h⟩ := bb h
          refine z_VJ E F hw [.int (x4 - (3 : Int32))] (k_X11_partFound l D cy kc o0 (x4 - (3 : Int32)) q16.2 h_q17 t_o0) t_o0 cf11 mk_X11_partFound vk_X11_partFound ml_X11_450 ⟨by decide, by decide⟩ rfl hl.1 rfl (Nat.le_of_ble_eq_true rfl) dX11_present_255 ⟨Nat.zero_le _, Nat.zero_le _⟩ (fun H locs hw hG => ?_)
          have t_o0 := hG.t t_o0
          have hg := hg.tr hG
          obtain rfl := Option.some.inj h
          exact r_J E hr hlk F hA hw hg dX11_present_258
        · rw [if_pos c18] at h
          refine lv_iload hx hb dX11_present_244 (lv_at hl 5 rfl) ?_
          refine lv_i2l hx hb dX11_present_246 rfl ?_
          refine lv_goto (tgt := 258) hx hb dX11_present_247 (by decide) ?_
          obtain rfl := Option.some.inj h
          exact r_J E hr hlk F hA hw hg dX11_present_258
      · rw [if_pos c19] at h
        refine lv_iload hx hb dX11_present_232 (lv_at hl 4 rfl) ?_
        refine lv_i2l hx hb dX11_present_234 rfl ?_
        refine lv_goto (tgt := 258) hx hb dX11_present_235 (by decide) ?_
        obtain rfl := Option.some.inj h
        exact r_J E hr hlk F hA hw hg dX11_present_258
    · rw [if_pos c20] at h
      refine lv_iload hx hb dX11_present_220 (lv_at hl 3 rfl) ?_
      refine lv_i2l hx hb dX11_present_222 rfl ?_
      refine lv_goto (tgt := 258) hx hb dX11_present_223 (by decide) ?_
      obtain rfl := Option.some.inj h
      exact r_J E hr hlk F hA hw hg dX11_present_258
  have J46 : ∀ (w0 : Nat) (y1 : Int32) (S3 : PS) (H : Heap) (locs : List Loc) (ls : Array Slot), (f_X11_present_46 o0 x1 x2 x3 x4 w0 y1 S3).bind some = some qq → Wd D cy A s H locs S3 → Gr S S3 → tD S3 o0 11 → tD S3 w0 11 → lv_has ls 15 [(0, .ref o0), (1, .int x1), (2, .int x2), (3, .int x3), (4, .int x4)] → W p l e (rmK 12 451 0 0) s m args below meth c H locs 0 0 (MQ below (QJ D cy S qq.2 qq.1 s.heap.size) args s 0 0 A) (F0 m 46 ls [.int y1, .ref w0]) := by
    intro w0 y1 S3 H locs ls h hw hg t_o0 t_w0 hl
    rw [f_X11_present_46] at h
    refine p_I E F hw t_w0 cf11 fk_X11_1 rfl rfl rfl dX11_present_46 rfl (fun H locs hw => ?_)
    refine lv_aload_n hx hb dX11_present_49 rfl (lv_at hl 0 rfl) ?_
    refine g_f E F hw t_o0 cf11 fk_X11_1 dX11_present_50 rfl ?_
    refine lv_if_le (tgt := 58) hx hb dX11_present_53 (by decide) (fun c21 => ?_) (fun c21 => ?_)
    · rw [if_pos c21] at h
      refine lv_aload_n hx hb dX11_present_58 rfl (lv_at hl 0 rfl) ?_
      obtain ⟨q2, h_q2, h⟩ := bb h
      refine z_VV E F hw [] (k_X11_find l D cy kc o0 (pI S3 w0 0 y1) h_q2 t_o0) t_o0 cf11 mk_X11_find vk_X11_find ml_X11_419 ⟨by decide, by decide⟩ rfl hl.1 rfl (Nat.le_of_ble_eq_true rfl) dX11_present_59 ⟨Nat.zero_le _, Nat.zero_le _⟩ (fun H locs hw hG => ?_)
      have t_o0 := hG.t t_o0
      have hg := hg.tr hG
      refine lv_iconst (v := (-1)) hx hb dX11_present_62 (by decide) ?_
      refine lv_istore (lv' := [(5, .int (-1 : Int32)), (0, .ref o0), (1, .int x1), (2, .int x2), (3, .int x3), (4, .int x4)]) hx hb dX11_present_63 hl (by decide) rfl (fun ls hl => ?_)
      refine lv_iconst (v := (-1)) hx hb dX11_present_65 (by decide) ?_
      refine lv_istore (lv' := [(6, .int (-1 : Int32)), (5, .int (-1 : Int32)), (0, .ref o0), (1, .int x1), (2, .int x2), (3, .int x3), (4, .int x4)]) hx hb dX11_present_66 hl (by decide) rfl (fun ls hl => ?_)
      refine lv_iconst (v := (-1)) hx hb dX11_present_68 (by decide) ?_
      refine lv_istore (lv' := [(7, .int (-1 : Int32)), (6, .int (-1 : Int32)), (5, .int (-1 : Int32)), (0, .ref o0), (1, .int x1), (2, .int x2), (3, .int x3), (4, .int x4)]) hx hb dX11_present_69 hl (by decide) rfl (fun ls hl => ?_)
      refine lv_lconst (v := 0) hx hb dX11_present_71 (by decide) ?_
      refine lv_lstore (lv' := [(8, .long (0 : Int64)), (7, .int (-1 : Int32)), (6, .int (-1 : Int32)), (5, .int (-1 : Int32)), (0, .ref o0), (1, .int x1), (2, .int x2), (3, .int x3), (4, .int x4)]) hx hb dX11_present_72 hl (by decide) rfl (fun ls hl => ?_)
      refine lv_iconst (v := 0) hx hb dX11_present_74 (by decide) ?_
      refine lv_istore (lv' := [(10, .int (0 : Int32)), (8, .long (0 : Int64)), (7, .int (-1 : Int32)), (6, .int (-1 : Int32)), (5, .int (-1 : Int32)), (0, .ref o0), (1, .int x1), (2, .int x2), (3, .int x3), (4, .int x4)]) hx hb dX11_present_75 hl (by decide) rfl (fun ls hl => ?_)
      obtain ⟨y14, hy14, h⟩ := bb h
      refine L77 o0 x1 x2 x3 x4 fu (-1 : Int32) (-1 : Int32) (-1 : Int32) (0 : Int64) (0 : Int32) q2.2 y14 hy14 _ _ _ hw (hg) t_o0 (lv_sub hl [5, 6, 7, 8, 9, 4, 3, 2, 1, 0] rfl) (fun e0 e1 e2 e3 S2 he H locs ls hw hG hl => ?_) (fun r he => ?_)
      · subst he
        have t_o0 := hG.t t_o0
        have hg := hg.tr hG
        exact J204 e0 e1 e2 e3 S2 _ _ _ h hw hg t_o0 (lv_sub hl [0, 1, 2, 3, 4, 5, 6] rfl)
      · subst he
        exact Option.some.inj h
    · rw [if_neg c21] at h
      refine lv_lconst (v := 0) hx hb dX11_present_56 (by decide) ?_
      obtain rfl := Option.some.inj h
      exact r_J E hr hlk F hA hw hg dX11_present_57
  rw [f_X11_present] at h
  refine lv_aload_n hx hb dX11_present_0 rfl (lv_at hl 0 rfl) ?_
  refine lv_aload_n hx hb dX11_present_1 rfl (lv_at hl 0 rfl) ?_
  refine lv_iload_n hx hb dX11_present_2 rfl (lv_at hl 1 rfl) ?_
  refine lv_iload_n hx hb dX11_present_3 rfl (lv_at hl 2 rfl) ?_
  refine lv_iload_n hx hb dX11_present_4 rfl (lv_at hl 3 rfl) ?_
  obtain ⟨q1, h_q1, h⟩ := bb h
  refine z_VI E F hw [.int x1, .int x2, .int x3] (k_X11_isOne l D cy kc o0 x1 x2 x3 S h_q1 t_o0) t_o0 cf11 mk_X11_isOne vk_X11_isOne ml_X11_416 ⟨by decide, by decide⟩ rfl hl.1 rfl (Nat.le_of_ble_eq_true rfl) dX11_present_5 ⟨Nat.zero_le _, Nat.zero_le _⟩ (fun H locs hw hG => ?_)
  have t_o0 := hG.t t_o0
  have hg := hg.tr hG
  refine lv_if_eq (tgt := 45) hx hb dX11_present_8 (by decide) (fun c29 => ?_) (fun c29 => ?_)
  · rw [if_pos c29] at h
    refine lv_iconst (v := 1) hx hb dX11_present_45 (by decide) ?_
    exact J46 o0 (1 : Int32) q1.2 _ _ _ h hw hg t_o0 t_o0 (lv_sub hl [0, 1, 2, 3, 4] rfl)
  · rw [if_neg c29] at h
    refine lv_aload_n hx hb dX11_present_11 rfl (lv_at hl 0 rfl) ?_
    obtain ⟨b22, r_b22, h⟩ := bb h
    obtain ⟨r_b22, t_b22⟩ := rk_some r_b22
    refine g_R E F hw t_o0 cf11 fk_X11_73 dX11_present_12 rfl r_b22 ?_
    refine lv_bipush (v := 61) hx hb dX11_present_15 (by decide) ?_
    refine lv_iload_n hx hb dX11_present_17 rfl (lv_at hl 1 rfl) ?_
    refine lv_iadd hx hb dX11_present_18 ?_
    obtain ⟨c23, h⟩ := bg h
    refine a_i E F hw t_b22 c23 dX11_present_19 ?_
    refine lv_if_ne (tgt := 45) hx hb dX11_present_20 (by decide) (fun c28 => ?_) (fun c28 => ?_)
    · rw [if_neg c28] at h
      refine lv_iconst (v := 1) hx hb dX11_present_45 (by decide) ?_
      exact J46 o0 (1 : Int32) q1.2 _ _ _ h hw hg t_o0 t_o0 (lv_sub hl [0, 1, 2, 3, 4] rfl)
    · rw [if_pos c28] at h
      refine lv_aload_n hx hb dX11_present_23 rfl (lv_at hl 0 rfl) ?_
      obtain ⟨q24, h_q24, h⟩ := bb h
      refine z_VI E F hw [] (k_X11_life l D cy kc o0 q1.2 h_q24 t_o0) t_o0 cf11 mk_X11_life vk_X11_life ml_X11_365 ⟨by decide, by decide⟩ rfl hl.1 rfl (Nat.le_of_ble_eq_true rfl) dX11_present_24 ⟨Nat.zero_le _, Nat.zero_le _⟩ (fun H locs hw hG => ?_)
      have t_o0 := hG.t t_o0
      have hg := hg.tr hG
      refine lv_iconst (v := 1) hx hb dX11_present_27 (by decide) ?_
      refine lv_icmp_le (tgt := 45) hx hb dX11_present_28 (by decide) (fun c27 => ?_) (fun c27 => ?_)
      · rw [if_pos c27] at h
        refine lv_iconst (v := 1) hx hb dX11_present_45 (by decide) ?_
        exact J46 o0 (1 : Int32) q24.2 _ _ _ h hw hg t_o0 t_o0 (lv_sub hl [0, 1, 2, 3, 4] rfl)
      · rw [if_neg c27] at h
        refine lv_iload hx hb dX11_present_31 (lv_at hl 4 rfl) ?_
        refine lv_iconst (v := 0) hx hb dX11_present_33 (by decide) ?_
        refine lv_iconst (v := 4) hx hb dX11_present_34 (by decide) ?_
        obtain ⟨q25, h_q25, h⟩ := bb h
        refine z_SI E F hw [.int x4, .int (0 : Int32), .int (4 : Int32)] (k_X11_within l D cy kc x4 (0 : Int32) (4 : Int32) q24.2 h_q25) mk_X11_within sk_X11_within ml_X11_303 ⟨by decide, by decide⟩ rfl hl.1 rfl (Nat.le_of_ble_eq_true rfl) dX11_present_35 ⟨Nat.zero_le _, Nat.zero_le _⟩ (fun H locs hw hG => ?_)
        have t_o0 := hG.t t_o0
        have hg := hg.tr hG
        refine lv_if_eq (tgt := 45) hx hb dX11_present_38 (by decide) (fun c26 => ?_) (fun c26 => ?_)
        · rw [if_pos c26] at h
          refine lv_iconst (v := 1) hx hb dX11_present_45 (by decide) ?_
          exact J46 o0 (1 : Int32) q25.2 _ _ _ h hw hg t_o0 t_o0 (lv_sub hl [0, 1, 2, 3, 4] rfl)
        · rw [if_neg c26] at h
          refine lv_iconst (v := 0) hx hb dX11_present_41 (by decide) ?_
          refine lv_goto (tgt := 46) hx hb dX11_present_42 (by decide) ?_
          exact J46 o0 (0 : Int32) q25.2 _ _ _ h hw hg t_o0 t_o0 (lv_sub hl [0, 1, 2, 3, 4] rfl)
def f_X11_hopesOf_62b10 (o0 : Nat) (x1 : Int32) (x2 : Int32) (z5 : Int32) (y0 : Int64) (y1 : Int64) (S3 : PS) : Option ((Int64 × Int32 × PS) ⊕ ((Int64 × PS) ⊕ (Int64 × PS))) :=
  some (.inl ((y0 + y1), z5 + 1, S3))
def f_X11_hopesOf_b10 (o0 : Nat) (x1 : Int32) (x2 : Int32) (x3 : Int64) (x5 : Int32) (S1 : PS) : Option ((Int64 × Int32 × PS) ⊕ ((Int64 × PS) ⊕ (Int64 × PS))) :=
  (if (27 : Int32) ≤ x5 then some (.inr (.inr (x3, S1))) else (rk S1 (sR S1 o0 30) 14).bind fun b2 => if ib x5 (sN S1 b2) = true then (if (lg_cmp (sJ S1 b2 (Int32.toNatClampNeg x5)) (0 : Int64)) ≤ 0 then f_X11_hopesOf_62b10 o0 x1 x2 x5 x3 (0 : Int64) S1 else (rk S1 (sR S1 o0 30) 14).bind fun b4 => if ib x5 (sN S1 b4) = true then (rk S1 (sR S1 o0 25) 13).bind fun b6 => (f_X11_doesAt x2 x1 x5 S1).bind fun q7 => if ib q7.1 (sN q7.2 b6) = true then (f_X11_valueOf o0 x2 x1 x5 (sI q7.2 b6 (Int32.toNatClampNeg q7.1)) q7.2).bind fun q9 => f_X11_hopesOf_62b10 o0 x1 x2 x5 x3 ((sJ S1 b4 (Int32.toNatClampNeg x5)) * q9.1) q9.2 else none else none) else none)
def f_X11_hopesOf_70 (z3 : Int64) (S3 : PS) : Option (Int64 × PS) :=
  some (z3, S3)
def f_X11_hopesOf (o0 : Nat) (x1 : Int32) (x2 : Int32) (S : PS) : Option (Int64 × PS) :=
  (f_X11_runsTo o0 x2 S).bind fun q1 => (loopN (fun a => f_X11_hopesOf_b10 o0 x1 x2 a.1 a.2.1 a.2.2) fu ((0 : Int64), (0 : Int32), q1.2)).bind (Sum.elim (fun r => some r) (fun a => f_X11_hopesOf_70 a.1 a.2))
set_option maxHeartbeats 4000000 in
set_option maxRecDepth 100000 in
theorem k_X11_hopesOf (l : Launch) (D : va_G) (cy : Nat → ClassId) (kc : Nat → Nat) (o0 : Nat) (x1 : Int32) (x2 : Int32) (S : PS) {qq : Int64 × PS} (h : f_X11_hopesOf o0 x1 x2 S = some qq) (t_o0 : tD S o0 11) : KJ l D cy kc yX11_hopesOf cX11_hopesOf 6 (rmK 11 410 0 0) [.ref o0, .int x1, .int x2] S qq.1 qq.2 := by
  refine K_body (Qc := QJ D cy S qq.2 qq.1) (by decide) (Nat.le_of_ble_eq_true rfl) ?_
  intro p e s m below meth c A ls args E hr hlk hnm hA F hw hl
  have hx := E.1
  have hb := E.2.1
  have hl : lv_has ls 6 [(0, .ref o0), (1, .int x1), (2, .int x2)] := hl
  have hg : Gr S S := Gr.rf
  replace h : (f_X11_hopesOf o0 x1 x2 S).bind some = some qq := by rw [h]; rfl
  have L10 : ∀ (o0 : Nat) (x1 : Int32) (x2 : Int32) (n : Nat) (x3 : Int64) (x5 : Int32) (S1 : PS) (o : (Int64 × PS) ⊕ (Int64 × PS)), loopN (fun a => f_X11_hopesOf_b10 o0 x1 x2 a.1 a.2.1 a.2.2) n (x3, x5, S1) = some o → ∀ (H : Heap) (locs : List Loc) (ls : Array Slot), Wd D cy A s H locs S1 → Gr S S1 → tD S1 o0 11 → lv_has ls 6 [(0, .ref o0), (1, .int x1), (2, .int x2), (3, .long x3), (5, .int x5)] → (∀ (e0 : Int64) (S2 : PS), o = .inr (e0, S2) → ∀ (H : Heap) (locs : List Loc) (ls : Array Slot), Wd D cy A s H locs S2 → Gr S1 S2 → lv_has ls 6 [(3, .long e0)] → W p l e (rmK 11 410 0 0) s m args below meth c H locs 0 0 (MQ below (QJ D cy S qq.2 qq.1 s.heap.size) args s 0 0 A) (F0 m 70 ls [])) → (∀ q9, o = .inl q9 → q9 = qq) → W p l e (rmK 11 410 0 0) s m args below meth c H locs 0 0 (MQ below (QJ D cy S qq.2 qq.1 s.heap.size) args s 0 0 A) (F0 m 10 ls []) := by
    intro o0 x1 x2 n
    induction n with
    | zero => intro x3 x5 S1 o h; exact absurd h (by simp [loopN])
    | succ n ih =>
      intro x3 x5 S1 o h H locs ls hw hG0 t_o0 hl hx2 hq2
      have hg : Gr S1 S1 := Gr.rf
      replace h : (f_X11_hopesOf_b10 o0 x1 x2 x3 x5 S1).bind (Sum.elim (loopN (fun a => f_X11_hopesOf_b10 o0 x1 x2 a.1 a.2.1 a.2.2) n) some) = some o := h
      have J62 : ∀ (z5 : Int32) (y0 : Int64) (y1 : Int64) (S3 : PS) (H : Heap) (locs : List Loc) (ls : Array Slot), (f_X11_hopesOf_62b10 o0 x1 x2 z5 y0 y1 S3).bind (Sum.elim (loopN (fun a => f_X11_hopesOf_b10 o0 x1 x2 a.1 a.2.1 a.2.2) n) some) = some o → Wd D cy A s H locs S3 → Gr S1 S3 → tD S3 o0 11 → lv_has ls 6 [(0, .ref o0), (1, .int x1), (2, .int x2), (5, .int z5)] → W p l e (rmK 11 410 0 0) s m args below meth c H locs 0 0 (MQ below (QJ D cy S qq.2 qq.1 s.heap.size) args s 0 0 A) (F0 m 62 ls [.long y1, .long y0]) := by
        intro z5 y0 y1 S3 H locs ls h hw hg t_o0 hl
        rw [f_X11_hopesOf_62b10] at h
        refine lv_ladd hx hb dX11_hopesOf_62 ?_
        refine lv_lstore_n (lv' := [(3, .long (y0 + y1)), (0, .ref o0), (1, .int x1), (2, .int x2), (5, .int z5)]) hx hb dX11_hopesOf_63 rfl hl (by decide) rfl (fun ls hl => ?_)
        refine lv_iinc (v := z5 + 1) (lv' := [(5, .int (z5 + 1)), (3, .long (y0 + y1)), (0, .ref o0), (1, .int x1), (2, .int x2)]) hx hb dX11_hopesOf_64 hl (k := 4) rfl rfl (by decide) rfl (fun ls hl => ?_)
        refine lv_goto (tgt := 10) hx hb dX11_hopesOf_67 (by decide) ?_
        exact ih (y0 + y1) (z5 + 1) S3 _ h _ _ _ hw (hG0.tr hg) t_o0 (lv_sub hl [2, 3, 4, 1, 0] rfl) (fun e0 S2 he H locs ls hw hG hl => hx2 e0 S2 he H locs ls hw (hg.tr hG) hl) hq2
      rw [f_X11_hopesOf_b10] at h
      refine lv_iload hx hb dX11_hopesOf_10 (lv_at hl 4 rfl) ?_
      refine lv_bipush (v := 27) hx hb dX11_hopesOf_12 (by decide) ?_
      refine lv_icmp_ge (tgt := 70) hx hb dX11_hopesOf_14 (by decide) (fun c11 => ?_) (fun c11 => ?_)
      · rw [if_pos c11] at h
        obtain rfl := Option.some.inj h
        exact hx2 x3 S1 rfl _ _ _ hw hg (lv_sub hl [3] rfl)
      · rw [if_neg c11] at h
        refine lv_lload_n hx hb dX11_hopesOf_17 rfl (lv_at hl 3 rfl) ?_
        refine lv_aload_n hx hb dX11_hopesOf_18 rfl (lv_at hl 0 rfl) ?_
        obtain ⟨b2, r_b2, h⟩ := bb h
        obtain ⟨r_b2, t_b2⟩ := rk_some r_b2
        refine g_R E F hw t_o0 cf11 fk_X11_124 dX11_hopesOf_19 rfl r_b2 ?_
        refine lv_iload hx hb dX11_hopesOf_22 (lv_at hl 4 rfl) ?_
        obtain ⟨c3, h⟩ := bg h
        refine a_j E F hw t_b2 c3 dX11_hopesOf_24 ?_
        refine lv_lconst (v := 0) hx hb dX11_hopesOf_25 (by decide) ?_
        refine W.lcmp hx hb dX11_hopesOf_26 ?_
        refine lv_if_le (tgt := 61) hx hb dX11_hopesOf_27 (by decide) (fun c10 => ?_) (fun c10 => ?_)
        · rw [if_pos c10] at h
          refine lv_lconst (v := 0) hx hb dX11_hopesOf_61 (by decide) ?_
          exact J62 x5 x3 (0 : Int64) S1 _ _ _ h hw hg t_o0 (lv_sub hl [0, 1, 2, 4] rfl)
        · rw [if_neg c10] at h
          refine lv_aload_n hx hb dX11_hopesOf_30 rfl (lv_at hl 0 rfl) ?_
          obtain ⟨b4, r_b4, h⟩ := bb h
          obtain ⟨r_b4, t_b4⟩ := rk_some r_b4
          refine g_R E F hw t_o0 cf11 fk_X11_124 dX11_hopesOf_31 rfl r_b4 ?_
          refine lv_iload hx hb dX11_hopesOf_34 (lv_at hl 4 rfl) ?_
          obtain ⟨c5, h⟩ := bg h
          refine a_j E F hw t_b4 c5 dX11_hopesOf_36 ?_
          refine lv_aload_n hx hb dX11_hopesOf_37 rfl (lv_at hl 0 rfl) ?_
          refine lv_iload_n hx hb dX11_hopesOf_38 rfl (lv_at hl 2 rfl) ?_
          refine lv_iload_n hx hb dX11_hopesOf_39 rfl (lv_at hl 1 rfl) ?_
          refine lv_iload hx hb dX11_hopesOf_40 (lv_at hl 4 rfl) ?_
          refine lv_aload_n hx hb dX11_hopesOf_42 rfl (lv_at hl 0 rfl) ?_
          obtain ⟨b6, r_b6, h⟩ := bb h
          obtain ⟨r_b6, t_b6⟩ := rk_some r_b6
          refine g_R E F hw t_o0 cf11 fk_X11_101 dX11_hopesOf_43 rfl r_b6 ?_
          refine lv_iload_n hx hb dX11_hopesOf_46 rfl (lv_at hl 2 rfl) ?_
          refine lv_iload_n hx hb dX11_hopesOf_47 rfl (lv_at hl 1 rfl) ?_
          refine lv_iload hx hb dX11_hopesOf_48 (lv_at hl 4 rfl) ?_
          obtain ⟨q7, h_q7, h⟩ := bb h
          refine z_SI E F hw [.int x2, .int x1, .int x5] (k_X11_doesAt l D cy kc x2 x1 x5 S1 h_q7) mk_X11_doesAt sk_X11_doesAt ml_X11_400 ⟨by decide, by decide⟩ rfl hl.1 rfl (Nat.le_of_ble_eq_true rfl) dX11_hopesOf_50 ⟨Nat.zero_le _, Nat.zero_le _⟩ (fun H locs hw hG => ?_)
          have t_o0 := hG.t t_o0
          have t_b6 := hG.t t_b6
          have hg := hg.tr hG
          obtain ⟨c8, h⟩ := bg h
          refine a_i E F hw t_b6 c8 dX11_hopesOf_53 ?_
          obtain ⟨q9, h_q9, h⟩ := bb h
          refine z_VJ E F hw [.int x2, .int x1, .int x5, .int (sI q7.2 b6 (Int32.toNatClampNeg q7.1))] (k_X11_valueOf l D cy kc o0 x2 x1 x5 (sI q7.2 b6 (Int32.toNatClampNeg q7.1)) q7.2 h_q9 t_o0) t_o0 cf11 mk_X11_valueOf vk_X11_valueOf ml_X11_390 ⟨by decide, by decide⟩ rfl hl.1 rfl (Nat.le_of_ble_eq_true rfl) dX11_hopesOf_54 ⟨Nat.zero_le _, Nat.zero_le _⟩ (fun H locs hw hG => ?_)
          have t_o0 := hG.t t_o0
          have hg := hg.tr hG
          refine lv_lmul hx hb dX11_hopesOf_57 ?_
          refine lv_goto (tgt := 62) hx hb dX11_hopesOf_58 (by decide) ?_
          exact J62 x5 x3 ((sJ S1 b4 (Int32.toNatClampNeg x5)) * q9.1) q9.2 _ _ _ h hw hg t_o0 (lv_sub hl [0, 1, 2, 4] rfl)
  have J70 : ∀ (z3 : Int64) (S3 : PS) (H : Heap) (locs : List Loc) (ls : Array Slot), (f_X11_hopesOf_70 z3 S3).bind some = some qq → Wd D cy A s H locs S3 → Gr S S3 → lv_has ls 6 [(3, .long z3)] → W p l e (rmK 11 410 0 0) s m args below meth c H locs 0 0 (MQ below (QJ D cy S qq.2 qq.1 s.heap.size) args s 0 0 A) (F0 m 70 ls []) := by
    intro z3 S3 H locs ls h hw hg  hl
    rw [f_X11_hopesOf_70] at h
    refine lv_lload_n hx hb dX11_hopesOf_70 rfl (lv_at hl 0 rfl) ?_
    obtain rfl := Option.some.inj h
    exact r_J E hr hlk F hA hw hg dX11_hopesOf_71
  rw [f_X11_hopesOf] at h
  refine lv_aload_n hx hb dX11_hopesOf_0 rfl (lv_at hl 0 rfl) ?_
  refine lv_iload_n hx hb dX11_hopesOf_1 rfl (lv_at hl 2 rfl) ?_
  obtain ⟨q1, h_q1, h⟩ := bb h
  refine z_VV E F hw [.int x2] (k_X11_runsTo l D cy kc o0 x2 S h_q1 t_o0) t_o0 cf11 mk_X11_runsTo vk_X11_runsTo ml_X11_465 ⟨by decide, by decide⟩ rfl hl.1 rfl (Nat.le_of_ble_eq_true rfl) dX11_hopesOf_2 ⟨Nat.zero_le _, Nat.zero_le _⟩ (fun H locs hw hG => ?_)
  have t_o0 := hG.t t_o0
  have hg := hg.tr hG
  refine lv_lconst (v := 0) hx hb dX11_hopesOf_5 (by decide) ?_
  refine lv_lstore_n (lv' := [(3, .long (0 : Int64)), (0, .ref o0), (1, .int x1), (2, .int x2)]) hx hb dX11_hopesOf_6 rfl hl (by decide) rfl (fun ls hl => ?_)
  refine lv_iconst (v := 0) hx hb dX11_hopesOf_7 (by decide) ?_
  refine lv_istore (lv' := [(5, .int (0 : Int32)), (3, .long (0 : Int64)), (0, .ref o0), (1, .int x1), (2, .int x2)]) hx hb dX11_hopesOf_8 hl (by decide) rfl (fun ls hl => ?_)
  obtain ⟨y12, hy12, h⟩ := bb h
  refine L10 o0 x1 x2 fu (0 : Int64) (0 : Int32) q1.2 y12 hy12 _ _ _ hw (hg) t_o0 (lv_sub hl [2, 3, 4, 1, 0] rfl) (fun e0 S2 he H locs ls hw hG hl => ?_) (fun r he => ?_)
  · subst he
    have hg := hg.tr hG
    exact J70 e0 S2 _ _ _ h hw hg  (lv_sub hl [0] rfl)
  · subst he
    exact Option.some.inj h
def f_X11_isHope (o0 : Nat) (x1 : Int32) (x2 : Int32) (S : PS) : Option (Int32 × PS) :=
  (f_X11_isSort o0 x1 S).bind fun q1 => (if q1.1 = 0 then some ((0 : Int32), q1.2) else (f_X11_isEarly o0 x2 q1.2).bind fun q2 => (if q2.1 = 0 then some ((0 : Int32), q2.2) else some ((1 : Int32), q2.2)))
set_option maxHeartbeats 4000000 in
set_option maxRecDepth 100000 in
theorem k_X11_isHope (l : Launch) (D : va_G) (cy : Nat → ClassId) (kc : Nat → Nat) (o0 : Nat) (x1 : Int32) (x2 : Int32) (S : PS) {qq : Int32 × PS} (h : f_X11_isHope o0 x1 x2 S = some qq) (t_o0 : tD S o0 11) : KI l D cy kc yX11_isHope cX11_isHope 3 .boolean (rmK 4 122 0 0) [.ref o0, .int x1, .int x2] S qq.1 qq.2 := by
  refine K_body (Qc := QI D cy S qq.2 qq.1) (by decide) (Nat.le_of_ble_eq_true rfl) ?_
  intro p e s m below meth c A ls args E hr hlk hnm hA F hw hl
  have hx := E.1
  have hb := E.2.1
  have hl : lv_has ls 3 [(0, .ref o0), (1, .int x1), (2, .int x2)] := hl
  have hg : Gr S S := Gr.rf
  replace h : (f_X11_isHope o0 x1 x2 S).bind some = some qq := by rw [h]; rfl
  rw [f_X11_isHope] at h
  refine lv_aload_n hx hb dX11_isHope_0 rfl (lv_at hl 0 rfl) ?_
  refine lv_iload_n hx hb dX11_isHope_1 rfl (lv_at hl 1 rfl) ?_
  obtain ⟨q1, h_q1, h⟩ := bb h
  refine z_VI E F hw [.int x1] (k_X11_isSort l D cy kc o0 x1 S h_q1 t_o0) t_o0 cf11 mk_X11_isSort vk_X11_isSort ml_X11_338 ⟨by decide, by decide⟩ rfl hl.1 rfl (Nat.le_of_ble_eq_true rfl) dX11_isHope_2 ⟨Nat.zero_le _, Nat.zero_le _⟩ (fun H locs hw hG => ?_)
  have t_o0 := hG.t t_o0
  have hg := hg.tr hG
  refine lv_if_eq (tgt := 20) hx hb dX11_isHope_5 (by decide) (fun c4 => ?_) (fun c4 => ?_)
  · rw [if_pos c4] at h
    refine lv_iconst (v := 0) hx hb dX11_isHope_20 (by decide) ?_
    obtain rfl := Option.some.inj h
    exact r_Z E hr hlk F hA hw hg rfl dX11_isHope_21
  · rw [if_neg c4] at h
    refine lv_aload_n hx hb dX11_isHope_8 rfl (lv_at hl 0 rfl) ?_
    refine lv_iload_n hx hb dX11_isHope_9 rfl (lv_at hl 2 rfl) ?_
    obtain ⟨q2, h_q2, h⟩ := bb h
    refine z_VI E F hw [.int x2] (k_X11_isEarly l D cy kc o0 x2 q1.2 h_q2 t_o0) t_o0 cf11 mk_X11_isEarly vk_X11_isEarly ml_X11_462 ⟨by decide, by decide⟩ rfl hl.1 rfl (Nat.le_of_ble_eq_true rfl) dX11_isHope_10 ⟨Nat.zero_le _, Nat.zero_le _⟩ (fun H locs hw hG => ?_)
    have t_o0 := hG.t t_o0
    have hg := hg.tr hG
    refine lv_if_eq (tgt := 20) hx hb dX11_isHope_13 (by decide) (fun c3 => ?_) (fun c3 => ?_)
    · rw [if_pos c3] at h
      refine lv_iconst (v := 0) hx hb dX11_isHope_20 (by decide) ?_
      obtain rfl := Option.some.inj h
      exact r_Z E hr hlk F hA hw hg rfl dX11_isHope_21
    · rw [if_neg c3] at h
      refine lv_iconst (v := 1) hx hb dX11_isHope_16 (by decide) ?_
      refine lv_goto (tgt := 21) hx hb dX11_isHope_17 (by decide) ?_
      obtain rfl := Option.some.inj h
      exact r_Z E hr hlk F hA hw hg rfl dX11_isHope_21
def f_X11_hopes_22 (o0 : Nat) (x1 : Int32) (x2 : Int32) (x3 : Int32) (w0 : Nat) (y1 : Int32) (S3 : PS) : Option (Int64 × PS) :=
  (if (sI (pI S3 w0 0 y1) o0 0) ≤ 0 then (f_X11_hopesOf o0 x2 x1 (pI S3 w0 0 y1)).bind fun q2 => (rk q2.2 (sR q2.2 o0 27) 14).bind fun b3 => if ib x1 (sN q2.2 b3) = true then (f_X11_partsOf o0 x1 q2.2).bind fun q5 => (f_X11_sets o0 q2.1 ((sJ q2.2 b3 (Int32.toNatClampNeg x1)) * q5.1) q5.2).bind fun q6 => (f_X11_partFound o0 x3 q6.2).bind fun q7 => some (q7.1, q7.2) else none else some ((0 : Int64), pI S3 w0 0 y1))
def f_X11_hopes (o0 : Nat) (x1 : Int32) (x2 : Int32) (x3 : Int32) (S : PS) : Option (Int64 × PS) :=
  (f_X11_isHope o0 x2 x1 S).bind fun q1 => (if q1.1 = 0 then f_X11_hopes_22 o0 x1 x2 x3 o0 (1 : Int32) q1.2 else (f_X11_isWhat x3 q1.2).bind fun q9 => (if q9.1 = 0 then f_X11_hopes_22 o0 x1 x2 x3 o0 (1 : Int32) q9.2 else f_X11_hopes_22 o0 x1 x2 x3 o0 (0 : Int32) q9.2))
set_option maxHeartbeats 4000000 in
set_option maxRecDepth 100000 in
theorem k_X11_hopes (l : Launch) (D : va_G) (cy : Nat → ClassId) (kc : Nat → Nat) (o0 : Nat) (x1 : Int32) (x2 : Int32) (x3 : Int32) (S : PS) {qq : Int64 × PS} (h : f_X11_hopes o0 x1 x2 x3 S = some qq) (t_o0 : tD S o0 11) : KJ l D cy kc yX11_hopes cX11_hopes 4 (rmK 12 451 0 0) [.ref o0, .int x1, .int x2, .int x3] S qq.1 qq.2 := by
  refine K_body (Qc := QJ D cy S qq.2 qq.1) (by decide) (Nat.le_of_ble_eq_true rfl) ?_
  intro p e s m below meth c A ls args E hr hlk hnm hA F hw hl
  have hx := E.1
  have hb := E.2.1
  have hl : lv_has ls 4 [(0, .ref o0), (1, .int x1), (2, .int x2), (3, .int x3)] := hl
  have hg : Gr S S := Gr.rf
  replace h : (f_X11_hopes o0 x1 x2 x3 S).bind some = some qq := by rw [h]; rfl
  have J22 : ∀ (w0 : Nat) (y1 : Int32) (S3 : PS) (H : Heap) (locs : List Loc) (ls : Array Slot), (f_X11_hopes_22 o0 x1 x2 x3 w0 y1 S3).bind some = some qq → Wd D cy A s H locs S3 → Gr S S3 → tD S3 o0 11 → tD S3 w0 11 → lv_has ls 4 [(0, .ref o0), (1, .int x1), (2, .int x2), (3, .int x3)] → W p l e (rmK 12 451 0 0) s m args below meth c H locs 0 0 (MQ below (QJ D cy S qq.2 qq.1 s.heap.size) args s 0 0 A) (F0 m 22 ls [.int y1, .ref w0]) := by
    intro w0 y1 S3 H locs ls h hw hg t_o0 t_w0 hl
    rw [f_X11_hopes_22] at h
    refine p_I E F hw t_w0 cf11 fk_X11_1 rfl rfl rfl dX11_hopes_22 rfl (fun H locs hw => ?_)
    refine lv_aload_n hx hb dX11_hopes_25 rfl (lv_at hl 0 rfl) ?_
    refine g_f E F hw t_o0 cf11 fk_X11_1 dX11_hopes_26 rfl ?_
    refine lv_if_le (tgt := 34) hx hb dX11_hopes_29 (by decide) (fun c8 => ?_) (fun c8 => ?_)
    · rw [if_pos c8] at h
      refine lv_aload_n hx hb dX11_hopes_34 rfl (lv_at hl 0 rfl) ?_
      refine lv_aload_n hx hb dX11_hopes_35 rfl (lv_at hl 0 rfl) ?_
      refine lv_iload_n hx hb dX11_hopes_36 rfl (lv_at hl 2 rfl) ?_
      refine lv_iload_n hx hb dX11_hopes_37 rfl (lv_at hl 1 rfl) ?_
      obtain ⟨q2, h_q2, h⟩ := bb h
      refine z_VJ E F hw [.int x2, .int x1] (k_X11_hopesOf l D cy kc o0 x2 x1 (pI S3 w0 0 y1) h_q2 t_o0) t_o0 cf11 mk_X11_hopesOf vk_X11_hopesOf ml_X11_487 ⟨by decide, by decide⟩ rfl hl.1 rfl (Nat.le_of_ble_eq_true rfl) dX11_hopes_38 ⟨Nat.zero_le _, Nat.zero_le _⟩ (fun H locs hw hG => ?_)
      have t_o0 := hG.t t_o0
      have hg := hg.tr hG
      refine lv_aload_n hx hb dX11_hopes_41 rfl (lv_at hl 0 rfl) ?_
      obtain ⟨b3, r_b3, h⟩ := bb h
      obtain ⟨r_b3, t_b3⟩ := rk_some r_b3
      refine g_R E F hw t_o0 cf11 fk_X11_121 dX11_hopes_42 rfl r_b3 ?_
      refine lv_iload_n hx hb dX11_hopes_45 rfl (lv_at hl 1 rfl) ?_
      obtain ⟨c4, h⟩ := bg h
      refine a_j E F hw t_b3 c4 dX11_hopes_46 ?_
      refine lv_aload_n hx hb dX11_hopes_47 rfl (lv_at hl 0 rfl) ?_
      refine lv_iload_n hx hb dX11_hopes_48 rfl (lv_at hl 1 rfl) ?_
      obtain ⟨q5, h_q5, h⟩ := bb h
      refine z_VJ E F hw [.int x1] (k_X11_partsOf l D cy kc o0 x1 q2.2 h_q5 t_o0) t_o0 cf11 mk_X11_partsOf vk_X11_partsOf ml_X11_442 ⟨by decide, by decide⟩ rfl hl.1 rfl (Nat.le_of_ble_eq_true rfl) dX11_hopes_49 ⟨Nat.zero_le _, Nat.zero_le _⟩ (fun H locs hw hG => ?_)
      have t_o0 := hG.t t_o0
      have hg := hg.tr hG
      refine lv_lmul hx hb dX11_hopes_52 ?_
      obtain ⟨q6, h_q6, h⟩ := bb h
      refine z_VV E F hw [.long q2.1, .long ((sJ q2.2 b3 (Int32.toNatClampNeg x1)) * q5.1)] (k_X11_sets l D cy kc o0 q2.1 ((sJ q2.2 b3 (Int32.toNatClampNeg x1)) * q5.1) q5.2 h_q6 t_o0) t_o0 cf11 mk_X11_sets vk_X11_sets ml_X11_446 ⟨by decide, by decide⟩ rfl hl.1 rfl (Nat.le_of_ble_eq_true rfl) dX11_hopes_53 ⟨Nat.zero_le _, Nat.zero_le _⟩ (fun H locs hw hG => ?_)
      have t_o0 := hG.t t_o0
      have hg := hg.tr hG
      refine lv_aload_n hx hb dX11_hopes_56 rfl (lv_at hl 0 rfl) ?_
      refine lv_iload_n hx hb dX11_hopes_57 rfl (lv_at hl 3 rfl) ?_
      obtain ⟨q7, h_q7, h⟩ := bb h
      refine z_VJ E F hw [.int x3] (k_X11_partFound l D cy kc o0 x3 q6.2 h_q7 t_o0) t_o0 cf11 mk_X11_partFound vk_X11_partFound ml_X11_450 ⟨by decide, by decide⟩ rfl hl.1 rfl (Nat.le_of_ble_eq_true rfl) dX11_hopes_58 ⟨Nat.zero_le _, Nat.zero_le _⟩ (fun H locs hw hG => ?_)
      have t_o0 := hG.t t_o0
      have hg := hg.tr hG
      obtain rfl := Option.some.inj h
      exact r_J E hr hlk F hA hw hg dX11_hopes_61
    · rw [if_neg c8] at h
      refine lv_lconst (v := 0) hx hb dX11_hopes_32 (by decide) ?_
      obtain rfl := Option.some.inj h
      exact r_J E hr hlk F hA hw hg dX11_hopes_33
  rw [f_X11_hopes] at h
  refine lv_aload_n hx hb dX11_hopes_0 rfl (lv_at hl 0 rfl) ?_
  refine lv_aload_n hx hb dX11_hopes_1 rfl (lv_at hl 0 rfl) ?_
  refine lv_iload_n hx hb dX11_hopes_2 rfl (lv_at hl 2 rfl) ?_
  refine lv_iload_n hx hb dX11_hopes_3 rfl (lv_at hl 1 rfl) ?_
  obtain ⟨q1, h_q1, h⟩ := bb h
  refine z_VI E F hw [.int x2, .int x1] (k_X11_isHope l D cy kc o0 x2 x1 S h_q1 t_o0) t_o0 cf11 mk_X11_isHope vk_X11_isHope ml_X11_484 ⟨by decide, by decide⟩ rfl hl.1 rfl (Nat.le_of_ble_eq_true rfl) dX11_hopes_4 ⟨Nat.zero_le _, Nat.zero_le _⟩ (fun H locs hw hG => ?_)
  have t_o0 := hG.t t_o0
  have hg := hg.tr hG
  refine lv_if_eq (tgt := 21) hx hb dX11_hopes_7 (by decide) (fun c11 => ?_) (fun c11 => ?_)
  · rw [if_pos c11] at h
    refine lv_iconst (v := 1) hx hb dX11_hopes_21 (by decide) ?_
    exact J22 o0 (1 : Int32) q1.2 _ _ _ h hw hg t_o0 t_o0 (lv_sub hl [0, 1, 2, 3] rfl)
  · rw [if_neg c11] at h
    refine lv_iload_n hx hb dX11_hopes_10 rfl (lv_at hl 3 rfl) ?_
    obtain ⟨q9, h_q9, h⟩ := bb h
    refine z_SI E F hw [.int x3] (k_X11_isWhat l D cy kc x3 q1.2 h_q9) mk_X11_isWhat sk_X11_isWhat ml_X11_436 ⟨by decide, by decide⟩ rfl hl.1 rfl (Nat.le_of_ble_eq_true rfl) dX11_hopes_11 ⟨Nat.zero_le _, Nat.zero_le _⟩ (fun H locs hw hG => ?_)
    have t_o0 := hG.t t_o0
    have hg := hg.tr hG
    refine lv_if_eq (tgt := 21) hx hb dX11_hopes_14 (by decide) (fun c10 => ?_) (fun c10 => ?_)
    · rw [if_pos c10] at h
      refine lv_iconst (v := 1) hx hb dX11_hopes_21 (by decide) ?_
      exact J22 o0 (1 : Int32) q9.2 _ _ _ h hw hg t_o0 t_o0 (lv_sub hl [0, 1, 2, 3] rfl)
    · rw [if_neg c10] at h
      refine lv_iconst (v := 0) hx hb dX11_hopes_17 (by decide) ?_
      refine lv_goto (tgt := 22) hx hb dX11_hopes_18 (by decide) ?_
      exact J22 o0 (0 : Int32) q9.2 _ _ _ h hw hg t_o0 t_o0 (lv_sub hl [0, 1, 2, 3] rfl)
def f_X11_vow_147b86 (o0 : Nat) (x1 : Int32) (x2 : Int32) (x3 : Int32) (x4 : Int32) (x5 : Int64) (z10 : Int32) (z11 : Int64) (S3 : PS) : Option ((Int32 × Int64 × Int32 × PS) ⊕ ((Int64 × PS) ⊕ (Int32 × Int64 × PS))) :=
  some (.inl (z10, z11, z10 + 1, S3))
def f_X11_vow_b86 (o0 : Nat) (x1 : Int32) (x2 : Int32) (x3 : Int32) (x4 : Int32) (x5 : Int64) (x7 : Int32) (x8 : Int64) (x10 : Int32) (S1 : PS) : Option ((Int32 × Int64 × Int32 × PS) ⊕ ((Int64 × PS) ⊕ (Int32 × Int64 × PS))) :=
  (if (9 : Int32) ≤ x10 then some (.inr (.inr (x7, x8, S1))) else (f_X11_isState o0 (x10 / (3 : Int32)) (x10 - x10 / (3 : Int32) * (3 : Int32)) S1).bind fun q7 => (if q7.1 = 0 then some (.inl (x7, x8, x10 + 1, q7.2)) else (rk q7.2 (sR q7.2 o0 10) 13).bind fun b8 => if ib ((61 : Int32) + x1) (sN q7.2 b8) = true then (f_X11_hopesOf o0 x2 x1 (pI (pI q7.2 b8 (Int32.toNatClampNeg ((61 : Int32) + x1)) ((1 : Int32) + x10)) o0 19 (1 : Int32))).bind fun q10 => (if x7 < 0 then f_X11_vow_147b86 o0 x1 x2 x3 x4 x5 x10 q10.1 q10.2 else (if (lg_cmp q10.1 x8) ≤ 0 then some (.inl (x7, x8, x10 + 1, q10.2)) else f_X11_vow_147b86 o0 x1 x2 x3 x4 x5 x10 q10.1 q10.2)) else none))
def f_X11_vow_161 (o0 : Nat) (x1 : Int32) (x3 : Int32) (z4 : Int32) (z5 : Int64) (z7 : Int32) (z8 : Int64) (S3 : PS) : Option (Int64 × PS) :=
  (rk S3 (sR S3 o0 10) 13).bind fun b16 => if ib ((61 : Int32) + x1) (sN S3 b16) = true then (rk (pI (pI S3 b16 (Int32.toNatClampNeg ((61 : Int32) + x1)) z4) o0 19 (1 : Int32)) (sR (pI (pI S3 b16 (Int32.toNatClampNeg ((61 : Int32) + x1)) z4) o0 19 (1 : Int32)) o0 27) 14).bind fun b18 => if ib x1 (sN (pI (pI S3 b16 (Int32.toNatClampNeg ((61 : Int32) + x1)) z4) o0 19 (1 : Int32)) b18) = true then (f_X11_partsOf o0 x1 (pI (pI S3 b16 (Int32.toNatClampNeg ((61 : Int32) + x1)) z4) o0 19 (1 : Int32))).bind fun q20 => (f_X11_sets o0 (z8 - z5) ((sJ (pI (pI S3 b16 (Int32.toNatClampNeg ((61 : Int32) + x1)) z4) o0 19 (1 : Int32)) b18 (Int32.toNatClampNeg x1)) * q20.1) q20.2).bind fun q21 => (if x3 = 0 then some ((Int32.toInt64 z7), q21.2) else (f_X11_partFound o0 (x3 - (1 : Int32)) q21.2).bind fun q22 => some (q22.1, q22.2)) else none else none
def f_X11_vow_31 (o0 : Nat) (x1 : Int32) (x2 : Int32) (x3 : Int32) (w0 : Nat) (y1 : Int32) (S3 : PS) : Option (Int64 × PS) :=
  (if (sI (pI S3 w0 0 y1) o0 0) ≤ 0 then (rk (pI S3 w0 0 y1) (sR (pI S3 w0 0 y1) o0 10) 13).bind fun b2 => if ib ((61 : Int32) + x1) (sN (pI S3 w0 0 y1) b2) = true then (rk (pI S3 w0 0 y1) (sR (pI S3 w0 0 y1) o0 10) 13).bind fun b4 => if ib ((61 : Int32) + x1) (sN (pI S3 w0 0 y1) b4) = true then (f_X11_hopesOf o0 x2 x1 (pI (pI (pI S3 w0 0 y1) b4 (Int32.toNatClampNeg ((61 : Int32) + x1)) (0 : Int32)) o0 19 (1 : Int32))).bind fun q6 => (loopN (fun a => f_X11_vow_b86 o0 x1 x2 x3 (sI (pI S3 w0 0 y1) b2 (Int32.toNatClampNeg ((61 : Int32) + x1))) q6.1 a.1 a.2.1 a.2.2.1 a.2.2.2) fu ((-1 : Int32), (0 : Int64), (0 : Int32), q6.2)).bind (Sum.elim (fun r => some r) (fun a => f_X11_vow_161 o0 x1 x3 (sI (pI S3 w0 0 y1) b2 (Int32.toNatClampNeg ((61 : Int32) + x1))) q6.1 a.1 a.2.1 a.2.2)) else none else none else some ((0 : Int64), pI S3 w0 0 y1))
def f_X11_vow (o0 : Nat) (x1 : Int32) (x2 : Int32) (x3 : Int32) (S : PS) : Option (Int64 × PS) :=
  (f_X11_isHope o0 x2 x1 S).bind fun q1 => (if q1.1 = 0 then f_X11_vow_31 o0 x1 x2 x3 o0 (1 : Int32) q1.2 else (f_X11_things o0 q1.2).bind fun q25 => (if q25.1 ≤ 0 then f_X11_vow_31 o0 x1 x2 x3 o0 (1 : Int32) q25.2 else (f_X11_within x3 (0 : Int32) (2 : Int32) q25.2).bind fun q26 => (if q26.1 = 0 then f_X11_vow_31 o0 x1 x2 x3 o0 (1 : Int32) q26.2 else f_X11_vow_31 o0 x1 x2 x3 o0 (0 : Int32) q26.2)))
set_option maxHeartbeats 4000000 in
set_option maxRecDepth 100000 in
theorem k_X11_vow (l : Launch) (D : va_G) (cy : Nat → ClassId) (kc : Nat → Nat) (o0 : Nat) (x1 : Int32) (x2 : Int32) (x3 : Int32) (S : PS) {qq : Int64 × PS} (h : f_X11_vow o0 x1 x2 x3 S = some qq) (t_o0 : tD S o0 11) : KJ l D cy kc yX11_vow cX11_vow 13 (rmK 12 451 0 0) [.ref o0, .int x1, .int x2, .int x3] S qq.1 qq.2 := by
  refine K_body (Qc := QJ D cy S qq.2 qq.1) (by decide) (Nat.le_of_ble_eq_true rfl) ?_
  intro p e s m below meth c A ls args E hr hlk hnm hA F hw hl
  have hx := E.1
  have hb := E.2.1
  have hl : lv_has ls 13 [(0, .ref o0), (1, .int x1), (2, .int x2), (3, .int x3)] := hl
  have hg : Gr S S := Gr.rf
  replace h : (f_X11_vow o0 x1 x2 x3 S).bind some = some qq := by rw [h]; rfl
  have L86 : ∀ (o0 : Nat) (x1 : Int32) (x2 : Int32) (x3 : Int32) (x4 : Int32) (x5 : Int64) (n : Nat) (x7 : Int32) (x8 : Int64) (x10 : Int32) (S1 : PS) (o : (Int64 × PS) ⊕ (Int32 × Int64 × PS)), loopN (fun a => f_X11_vow_b86 o0 x1 x2 x3 x4 x5 a.1 a.2.1 a.2.2.1 a.2.2.2) n (x7, x8, x10, S1) = some o → ∀ (H : Heap) (locs : List Loc) (ls : Array Slot), Wd D cy A s H locs S1 → Gr S S1 → tD S1 o0 11 → lv_has ls 13 [(0, .ref o0), (1, .int x1), (2, .int x2), (3, .int x3), (4, .int x4), (5, .long x5), (7, .int x7), (8, .long x8), (10, .int x10)] → (∀ (e0 : Int32) (e1 : Int64) (S2 : PS), o = .inr (e0, e1, S2) → ∀ (H : Heap) (locs : List Loc) (ls : Array Slot), Wd D cy A s H locs S2 → Gr S1 S2 → lv_has ls 13 [(0, .ref o0), (1, .int x1), (3, .int x3), (4, .int x4), (5, .long x5), (7, .int e0), (8, .long e1)] → W p l e (rmK 12 451 0 0) s m args below meth c H locs 0 0 (MQ below (QJ D cy S qq.2 qq.1 s.heap.size) args s 0 0 A) (F0 m 161 ls [])) → (∀ q9, o = .inl q9 → q9 = qq) → W p l e (rmK 12 451 0 0) s m args below meth c H locs 0 0 (MQ below (QJ D cy S qq.2 qq.1 s.heap.size) args s 0 0 A) (F0 m 86 ls []) := by
    intro o0 x1 x2 x3 x4 x5 n
    induction n with
    | zero => intro x7 x8 x10 S1 o h; exact absurd h (by simp [loopN])
    | succ n ih =>
      intro x7 x8 x10 S1 o h H locs ls hw hG0 t_o0 hl hx2 hq2
      have hg : Gr S1 S1 := Gr.rf
      replace h : (f_X11_vow_b86 o0 x1 x2 x3 x4 x5 x7 x8 x10 S1).bind (Sum.elim (loopN (fun a => f_X11_vow_b86 o0 x1 x2 x3 x4 x5 a.1 a.2.1 a.2.2.1 a.2.2.2) n) some) = some o := h
      have J147 : ∀ (z10 : Int32) (z11 : Int64) (S3 : PS) (H : Heap) (locs : List Loc) (ls : Array Slot), (f_X11_vow_147b86 o0 x1 x2 x3 x4 x5 z10 z11 S3).bind (Sum.elim (loopN (fun a => f_X11_vow_b86 o0 x1 x2 x3 x4 x5 a.1 a.2.1 a.2.2.1 a.2.2.2) n) some) = some o → Wd D cy A s H locs S3 → Gr S1 S3 → tD S3 o0 11 → lv_has ls 13 [(0, .ref o0), (1, .int x1), (2, .int x2), (3, .int x3), (4, .int x4), (5, .long x5), (10, .int z10), (11, .long z11)] → W p l e (rmK 12 451 0 0) s m args below meth c H locs 0 0 (MQ below (QJ D cy S qq.2 qq.1 s.heap.size) args s 0 0 A) (F0 m 147 ls []) := by
        intro z10 z11 S3 H locs ls h hw hg t_o0 hl
        rw [f_X11_vow_147b86] at h
        refine lv_lload hx hb dX11_vow_147 (lv_at hl 7 rfl) ?_
        refine lv_lstore (lv' := [(8, .long z11), (0, .ref o0), (1, .int x1), (2, .int x2), (3, .int x3), (4, .int x4), (5, .long x5), (10, .int z10), (11, .long z11)]) hx hb dX11_vow_149 hl (by decide) rfl (fun ls hl => ?_)
        refine lv_iload hx hb dX11_vow_151 (lv_at hl 7 rfl) ?_
        refine lv_istore (lv' := [(7, .int z10), (8, .long z11), (0, .ref o0), (1, .int x1), (2, .int x2), (3, .int x3), (4, .int x4), (5, .long x5), (10, .int z10), (11, .long z11)]) hx hb dX11_vow_153 hl (by decide) rfl (fun ls hl => ?_)
        refine lv_iinc (v := z10 + 1) (lv' := [(10, .int (z10 + 1)), (7, .int z10), (8, .long z11), (0, .ref o0), (1, .int x1), (2, .int x2), (3, .int x3), (4, .int x4), (5, .long x5), (11, .long z11)]) hx hb dX11_vow_155 hl (k := 8) rfl rfl (by decide) rfl (fun ls hl => ?_)
        refine lv_goto (tgt := 86) hx hb dX11_vow_158 (by decide) ?_
        exact ih z10 z11 (z10 + 1) S3 _ h _ _ _ hw (hG0.tr hg) t_o0 (lv_sub hl [3, 4, 5, 6, 7, 8, 1, 2, 0] rfl) (fun e0 e1 S2 he H locs ls hw hG hl => hx2 e0 e1 S2 he H locs ls hw (hg.tr hG) hl) hq2
      rw [f_X11_vow_b86] at h
      refine lv_iload hx hb dX11_vow_86 (lv_at hl 8 rfl) ?_
      refine lv_bipush (v := 9) hx hb dX11_vow_88 (by decide) ?_
      refine lv_icmp_ge (tgt := 161) hx hb dX11_vow_90 (by decide) (fun c14 => ?_) (fun c14 => ?_)
      · rw [if_pos c14] at h
        obtain rfl := Option.some.inj h
        exact hx2 x7 x8 S1 rfl _ _ _ hw hg (lv_sub hl [0, 1, 3, 4, 5, 6, 7] rfl)
      · rw [if_neg c14] at h
        refine lv_aload_n hx hb dX11_vow_93 rfl (lv_at hl 0 rfl) ?_
        refine lv_iload hx hb dX11_vow_94 (lv_at hl 8 rfl) ?_
        refine lv_iconst (v := 3) hx hb dX11_vow_96 (by decide) ?_
        refine lv_idiv hx hb dX11_vow_97 (by decide) ?_
        refine lv_iload hx hb dX11_vow_98 (lv_at hl 8 rfl) ?_
        refine lv_iconst (v := 3) hx hb dX11_vow_100 (by decide) ?_
        refine lv_irem hx hb dX11_vow_101 (by decide) ?_
        obtain ⟨q7, h_q7, h⟩ := bb h
        refine z_VI E F hw [.int (x10 / (3 : Int32)), .int (x10 - x10 / (3 : Int32) * (3 : Int32))] (k_X11_isState l D cy kc o0 (x10 / (3 : Int32)) (x10 - x10 / (3 : Int32) * (3 : Int32)) S1 h_q7 t_o0) t_o0 cf11 mk_X11_isState vk_X11_isState ml_X11_357 ⟨by decide, by decide⟩ rfl hl.1 rfl (Nat.le_of_ble_eq_true rfl) dX11_vow_102 ⟨Nat.zero_le _, Nat.zero_le _⟩ (fun H locs hw hG => ?_)
        have t_o0 := hG.t t_o0
        have hg := hg.tr hG
        refine lv_if_eq (tgt := 155) hx hb dX11_vow_105 (by decide) (fun c13 => ?_) (fun c13 => ?_)
        · rw [if_pos c13] at h
          refine lv_iinc (v := x10 + 1) (lv' := [(10, .int (x10 + 1)), (0, .ref o0), (1, .int x1), (2, .int x2), (3, .int x3), (4, .int x4), (5, .long x5), (7, .int x7), (8, .long x8)]) hx hb dX11_vow_155 hl (k := 8) rfl rfl (by decide) rfl (fun ls hl => ?_)
          refine lv_goto (tgt := 86) hx hb dX11_vow_158 (by decide) ?_
          exact ih x7 x8 (x10 + 1) q7.2 _ h _ _ _ hw (hG0.tr hg) t_o0 (lv_sub hl [1, 2, 3, 4, 5, 6, 7, 8, 0] rfl) (fun e0 e1 S2 he H locs ls hw hG hl => hx2 e0 e1 S2 he H locs ls hw (hg.tr hG) hl) hq2
        · rw [if_neg c13] at h
          refine lv_aload_n hx hb dX11_vow_108 rfl (lv_at hl 0 rfl) ?_
          obtain ⟨b8, r_b8, h⟩ := bb h
          obtain ⟨r_b8, t_b8⟩ := rk_some r_b8
          refine g_R E F hw t_o0 cf11 fk_X11_73 dX11_vow_109 rfl r_b8 ?_
          refine lv_bipush (v := 61) hx hb dX11_vow_112 (by decide) ?_
          refine lv_iload_n hx hb dX11_vow_114 rfl (lv_at hl 1 rfl) ?_
          refine lv_iadd hx hb dX11_vow_115 ?_
          refine lv_iconst (v := 1) hx hb dX11_vow_116 (by decide) ?_
          refine lv_iload hx hb dX11_vow_117 (lv_at hl 8 rfl) ?_
          refine lv_iadd hx hb dX11_vow_119 ?_
          obtain ⟨c9, h⟩ := bg h
          refine b_i E F hw t_b8 c9 dX11_vow_120 (fun H locs hw => ?_)
          refine lv_aload_n hx hb dX11_vow_121 rfl (lv_at hl 0 rfl) ?_
          refine lv_iconst (v := 1) hx hb dX11_vow_122 (by decide) ?_
          refine p_I E F hw t_o0 cf11 fk_X11_163 rfl (isB_nar rfl) (isB_fit rfl) dX11_vow_123 rfl (fun H locs hw => ?_)
          refine lv_aload_n hx hb dX11_vow_126 rfl (lv_at hl 0 rfl) ?_
          refine lv_iload_n hx hb dX11_vow_127 rfl (lv_at hl 2 rfl) ?_
          refine lv_iload_n hx hb dX11_vow_128 rfl (lv_at hl 1 rfl) ?_
          obtain ⟨q10, h_q10, h⟩ := bb h
          refine z_VJ E F hw [.int x2, .int x1] (k_X11_hopesOf l D cy kc o0 x2 x1 (pI (pI q7.2 b8 (Int32.toNatClampNeg ((61 : Int32) + x1)) ((1 : Int32) + x10)) o0 19 (1 : Int32)) h_q10 t_o0) t_o0 cf11 mk_X11_hopesOf vk_X11_hopesOf ml_X11_487 ⟨by decide, by decide⟩ rfl hl.1 rfl (Nat.le_of_ble_eq_true rfl) dX11_vow_129 ⟨Nat.zero_le _, Nat.zero_le _⟩ (fun H locs hw hG => ?_)
          have t_o0 := hG.t t_o0
          have hg := hg.tr hG
          refine lv_lstore (lv' := [(11, .long q10.1), (0, .ref o0), (1, .int x1), (2, .int x2), (3, .int x3), (4, .int x4), (5, .long x5), (7, .int x7), (8, .long x8), (10, .int x10)]) hx hb dX11_vow_132 hl (by decide) rfl (fun ls hl => ?_)
          refine lv_iload hx hb dX11_vow_134 (lv_at hl 7 rfl) ?_
          refine lv_if_lt (tgt := 147) hx hb dX11_vow_136 (by decide) (fun c12 => ?_) (fun c12 => ?_)
          · rw [if_pos c12] at h
            exact J147 x10 q10.1 q10.2 _ _ _ h hw hg t_o0 (lv_sub hl [1, 2, 3, 4, 5, 6, 9, 0] rfl)
          · rw [if_neg c12] at h
            refine lv_lload hx hb dX11_vow_139 (lv_at hl 0 rfl) ?_
            refine lv_lload hx hb dX11_vow_141 (lv_at hl 8 rfl) ?_
            refine W.lcmp hx hb dX11_vow_143 ?_
            refine lv_if_le (tgt := 155) hx hb dX11_vow_144 (by decide) (fun c11 => ?_) (fun c11 => ?_)
            · rw [if_pos c11] at h
              refine lv_iinc (v := x10 + 1) (lv' := [(10, .int (x10 + 1)), (11, .long q10.1), (0, .ref o0), (1, .int x1), (2, .int x2), (3, .int x3), (4, .int x4), (5, .long x5), (7, .int x7), (8, .long x8)]) hx hb dX11_vow_155 hl (k := 9) rfl rfl (by decide) rfl (fun ls hl => ?_)
              refine lv_goto (tgt := 86) hx hb dX11_vow_158 (by decide) ?_
              exact ih x7 x8 (x10 + 1) q10.2 _ h _ _ _ hw (hG0.tr hg) t_o0 (lv_sub hl [2, 3, 4, 5, 6, 7, 8, 9, 0] rfl) (fun e0 e1 S2 he H locs ls hw hG hl => hx2 e0 e1 S2 he H locs ls hw (hg.tr hG) hl) hq2
            · rw [if_neg c11] at h
              exact J147 x10 q10.1 q10.2 _ _ _ h hw hg t_o0 (lv_sub hl [1, 2, 3, 4, 5, 6, 9, 0] rfl)
  have J161 : ∀ (z4 : Int32) (z5 : Int64) (z7 : Int32) (z8 : Int64) (S3 : PS) (H : Heap) (locs : List Loc) (ls : Array Slot), (f_X11_vow_161 o0 x1 x3 z4 z5 z7 z8 S3).bind some = some qq → Wd D cy A s H locs S3 → Gr S S3 → tD S3 o0 11 → lv_has ls 13 [(0, .ref o0), (1, .int x1), (3, .int x3), (4, .int z4), (5, .long z5), (7, .int z7), (8, .long z8)] → W p l e (rmK 12 451 0 0) s m args below meth c H locs 0 0 (MQ below (QJ D cy S qq.2 qq.1 s.heap.size) args s 0 0 A) (F0 m 161 ls []) := by
    intro z4 z5 z7 z8 S3 H locs ls h hw hg t_o0 hl
    rw [f_X11_vow_161] at h
    refine lv_aload_n hx hb dX11_vow_161 rfl (lv_at hl 0 rfl) ?_
    obtain ⟨b16, r_b16, h⟩ := bb h
    obtain ⟨r_b16, t_b16⟩ := rk_some r_b16
    refine g_R E F hw t_o0 cf11 fk_X11_73 dX11_vow_162 rfl r_b16 ?_
    refine lv_bipush (v := 61) hx hb dX11_vow_165 (by decide) ?_
    refine lv_iload_n hx hb dX11_vow_167 rfl (lv_at hl 1 rfl) ?_
    refine lv_iadd hx hb dX11_vow_168 ?_
    refine lv_iload hx hb dX11_vow_169 (lv_at hl 3 rfl) ?_
    obtain ⟨c17, h⟩ := bg h
    refine b_i E F hw t_b16 c17 dX11_vow_171 (fun H locs hw => ?_)
    refine lv_aload_n hx hb dX11_vow_172 rfl (lv_at hl 0 rfl) ?_
    refine lv_iconst (v := 1) hx hb dX11_vow_173 (by decide) ?_
    refine p_I E F hw t_o0 cf11 fk_X11_163 rfl (isB_nar rfl) (isB_fit rfl) dX11_vow_174 rfl (fun H locs hw => ?_)
    refine lv_aload_n hx hb dX11_vow_177 rfl (lv_at hl 0 rfl) ?_
    refine lv_lload hx hb dX11_vow_178 (lv_at hl 6 rfl) ?_
    refine lv_lload hx hb dX11_vow_180 (lv_at hl 4 rfl) ?_
    refine lv_lsub hx hb dX11_vow_182 ?_
    refine lv_aload_n hx hb dX11_vow_183 rfl (lv_at hl 0 rfl) ?_
    obtain ⟨b18, r_b18, h⟩ := bb h
    obtain ⟨r_b18, t_b18⟩ := rk_some r_b18
    refine g_R E F hw t_o0 cf11 fk_X11_121 dX11_vow_184 rfl r_b18 ?_
    refine lv_iload_n hx hb dX11_vow_187 rfl (lv_at hl 1 rfl) ?_
    obtain ⟨c19, h⟩ := bg h
    refine a_j E F hw t_b18 c19 dX11_vow_188 ?_
    refine lv_aload_n hx hb dX11_vow_189 rfl (lv_at hl 0 rfl) ?_
    refine lv_iload_n hx hb dX11_vow_190 rfl (lv_at hl 1 rfl) ?_
    obtain ⟨q20, h_q20, h⟩ := bb h
    refine z_VJ E F hw [.int x1] (k_X11_partsOf l D cy kc o0 x1 (pI (pI S3 b16 (Int32.toNatClampNeg ((61 : Int32) + x1)) z4) o0 19 (1 : Int32)) h_q20 t_o0) t_o0 cf11 mk_X11_partsOf vk_X11_partsOf ml_X11_442 ⟨by decide, by decide⟩ rfl hl.1 rfl (Nat.le_of_ble_eq_true rfl) dX11_vow_191 ⟨Nat.zero_le _, Nat.zero_le _⟩ (fun H locs hw hG => ?_)
    have t_o0 := hG.t t_o0
    have hg := hg.tr hG
    refine lv_lmul hx hb dX11_vow_194 ?_
    obtain ⟨q21, h_q21, h⟩ := bb h
    refine z_VV E F hw [.long (z8 - z5), .long ((sJ (pI (pI S3 b16 (Int32.toNatClampNeg ((61 : Int32) + x1)) z4) o0 19 (1 : Int32)) b18 (Int32.toNatClampNeg x1)) * q20.1)] (k_X11_sets l D cy kc o0 (z8 - z5) ((sJ (pI (pI S3 b16 (Int32.toNatClampNeg ((61 : Int32) + x1)) z4) o0 19 (1 : Int32)) b18 (Int32.toNatClampNeg x1)) * q20.1) q20.2 h_q21 t_o0) t_o0 cf11 mk_X11_sets vk_X11_sets ml_X11_446 ⟨by decide, by decide⟩ rfl hl.1 rfl (Nat.le_of_ble_eq_true rfl) dX11_vow_195 ⟨Nat.zero_le _, Nat.zero_le _⟩ (fun H locs hw hG => ?_)
    have t_o0 := hG.t t_o0
    have hg := hg.tr hG
    refine lv_iload_n hx hb dX11_vow_198 rfl (lv_at hl 2 rfl) ?_
    refine lv_if_ne (tgt := 208) hx hb dX11_vow_199 (by decide) (fun c23 => ?_) (fun c23 => ?_)
    · rw [if_neg c23] at h
      refine lv_aload_n hx hb dX11_vow_208 rfl (lv_at hl 0 rfl) ?_
      refine lv_iload_n hx hb dX11_vow_209 rfl (lv_at hl 2 rfl) ?_
      refine lv_iconst (v := 1) hx hb dX11_vow_210 (by decide) ?_
      refine lv_isub hx hb dX11_vow_211 ?_
      obtain ⟨q22, h_q22, h⟩ := bb h
      refine z_VJ E F hw [.int (x3 - (1 : Int32))] (k_X11_partFound l D cy kc o0 (x3 - (1 : Int32)) q21.2 h_q22 t_o0) t_o0 cf11 mk_X11_partFound vk_X11_partFound ml_X11_450 ⟨by decide, by decide⟩ rfl hl.1 rfl (Nat.le_of_ble_eq_true rfl) dX11_vow_212 ⟨Nat.zero_le _, Nat.zero_le _⟩ (fun H locs hw hG => ?_)
      have t_o0 := hG.t t_o0
      have hg := hg.tr hG
      obtain rfl := Option.some.inj h
      exact r_J E hr hlk F hA hw hg dX11_vow_215
    · rw [if_pos c23] at h
      refine lv_iload hx hb dX11_vow_202 (lv_at hl 5 rfl) ?_
      refine lv_i2l hx hb dX11_vow_204 rfl ?_
      refine lv_goto (tgt := 215) hx hb dX11_vow_205 (by decide) ?_
      obtain rfl := Option.some.inj h
      exact r_J E hr hlk F hA hw hg dX11_vow_215
  have J31 : ∀ (w0 : Nat) (y1 : Int32) (S3 : PS) (H : Heap) (locs : List Loc) (ls : Array Slot), (f_X11_vow_31 o0 x1 x2 x3 w0 y1 S3).bind some = some qq → Wd D cy A s H locs S3 → Gr S S3 → tD S3 o0 11 → tD S3 w0 11 → lv_has ls 13 [(0, .ref o0), (1, .int x1), (2, .int x2), (3, .int x3)] → W p l e (rmK 12 451 0 0) s m args below meth c H locs 0 0 (MQ below (QJ D cy S qq.2 qq.1 s.heap.size) args s 0 0 A) (F0 m 31 ls [.int y1, .ref w0]) := by
    intro w0 y1 S3 H locs ls h hw hg t_o0 t_w0 hl
    rw [f_X11_vow_31] at h
    refine p_I E F hw t_w0 cf11 fk_X11_1 rfl rfl rfl dX11_vow_31 rfl (fun H locs hw => ?_)
    refine lv_aload_n hx hb dX11_vow_34 rfl (lv_at hl 0 rfl) ?_
    refine g_f E F hw t_o0 cf11 fk_X11_1 dX11_vow_35 rfl ?_
    refine lv_if_le (tgt := 43) hx hb dX11_vow_38 (by decide) (fun c24 => ?_) (fun c24 => ?_)
    · rw [if_pos c24] at h
      refine lv_aload_n hx hb dX11_vow_43 rfl (lv_at hl 0 rfl) ?_
      obtain ⟨b2, r_b2, h⟩ := bb h
      obtain ⟨r_b2, t_b2⟩ := rk_some r_b2
      refine g_R E F hw t_o0 cf11 fk_X11_73 dX11_vow_44 rfl r_b2 ?_
      refine lv_bipush (v := 61) hx hb dX11_vow_47 (by decide) ?_
      refine lv_iload_n hx hb dX11_vow_49 rfl (lv_at hl 1 rfl) ?_
      refine lv_iadd hx hb dX11_vow_50 ?_
      obtain ⟨c3, h⟩ := bg h
      refine a_i E F hw t_b2 c3 dX11_vow_51 ?_
      refine lv_istore (lv' := [(4, .int (sI (pI S3 w0 0 y1) b2 (Int32.toNatClampNeg ((61 : Int32) + x1)))), (0, .ref o0), (1, .int x1), (2, .int x2), (3, .int x3)]) hx hb dX11_vow_52 hl (by decide) rfl (fun ls hl => ?_)
      refine lv_aload_n hx hb dX11_vow_54 rfl (lv_at hl 1 rfl) ?_
      obtain ⟨b4, r_b4, h⟩ := bb h
      obtain ⟨r_b4, t_b4⟩ := rk_some r_b4
      refine g_R E F hw t_o0 cf11 fk_X11_73 dX11_vow_55 rfl r_b4 ?_
      refine lv_bipush (v := 61) hx hb dX11_vow_58 (by decide) ?_
      refine lv_iload_n hx hb dX11_vow_60 rfl (lv_at hl 2 rfl) ?_
      refine lv_iadd hx hb dX11_vow_61 ?_
      refine lv_iconst (v := 0) hx hb dX11_vow_62 (by decide) ?_
      obtain ⟨c5, h⟩ := bg h
      refine b_i E F hw t_b4 c5 dX11_vow_63 (fun H locs hw => ?_)
      refine lv_aload_n hx hb dX11_vow_64 rfl (lv_at hl 1 rfl) ?_
      refine lv_iconst (v := 1) hx hb dX11_vow_65 (by decide) ?_
      refine p_I E F hw t_o0 cf11 fk_X11_163 rfl (isB_nar rfl) (isB_fit rfl) dX11_vow_66 rfl (fun H locs hw => ?_)
      refine lv_aload_n hx hb dX11_vow_69 rfl (lv_at hl 1 rfl) ?_
      refine lv_iload_n hx hb dX11_vow_70 rfl (lv_at hl 3 rfl) ?_
      refine lv_iload_n hx hb dX11_vow_71 rfl (lv_at hl 2 rfl) ?_
      obtain ⟨q6, h_q6, h⟩ := bb h
      refine z_VJ E F hw [.int x2, .int x1] (k_X11_hopesOf l D cy kc o0 x2 x1 (pI (pI (pI S3 w0 0 y1) b4 (Int32.toNatClampNeg ((61 : Int32) + x1)) (0 : Int32)) o0 19 (1 : Int32)) h_q6 t_o0) t_o0 cf11 mk_X11_hopesOf vk_X11_hopesOf ml_X11_487 ⟨by decide, by decide⟩ rfl hl.1 rfl (Nat.le_of_ble_eq_true rfl) dX11_vow_72 ⟨Nat.zero_le _, Nat.zero_le _⟩ (fun H locs hw hG => ?_)
      have t_o0 := hG.t t_o0
      have hg := hg.tr hG
      refine lv_lstore (lv' := [(5, .long q6.1), (4, .int (sI (pI S3 w0 0 y1) b2 (Int32.toNatClampNeg ((61 : Int32) + x1)))), (0, .ref o0), (1, .int x1), (2, .int x2), (3, .int x3)]) hx hb dX11_vow_75 hl (by decide) rfl (fun ls hl => ?_)
      refine lv_iconst (v := (-1)) hx hb dX11_vow_77 (by decide) ?_
      refine lv_istore (lv' := [(7, .int (-1 : Int32)), (5, .long q6.1), (4, .int (sI (pI S3 w0 0 y1) b2 (Int32.toNatClampNeg ((61 : Int32) + x1)))), (0, .ref o0), (1, .int x1), (2, .int x2), (3, .int x3)]) hx hb dX11_vow_78 hl (by decide) rfl (fun ls hl => ?_)
      refine lv_lconst (v := 0) hx hb dX11_vow_80 (by decide) ?_
      refine lv_lstore (lv' := [(8, .long (0 : Int64)), (7, .int (-1 : Int32)), (5, .long q6.1), (4, .int (sI (pI S3 w0 0 y1) b2 (Int32.toNatClampNeg ((61 : Int32) + x1)))), (0, .ref o0), (1, .int x1), (2, .int x2), (3, .int x3)]) hx hb dX11_vow_81 hl (by decide) rfl (fun ls hl => ?_)
      refine lv_iconst (v := 0) hx hb dX11_vow_83 (by decide) ?_
      refine lv_istore (lv' := [(10, .int (0 : Int32)), (8, .long (0 : Int64)), (7, .int (-1 : Int32)), (5, .long q6.1), (4, .int (sI (pI S3 w0 0 y1) b2 (Int32.toNatClampNeg ((61 : Int32) + x1)))), (0, .ref o0), (1, .int x1), (2, .int x2), (3, .int x3)]) hx hb dX11_vow_84 hl (by decide) rfl (fun ls hl => ?_)
      obtain ⟨y15, hy15, h⟩ := bb h
      refine L86 o0 x1 x2 x3 (sI (pI S3 w0 0 y1) b2 (Int32.toNatClampNeg ((61 : Int32) + x1))) q6.1 fu (-1 : Int32) (0 : Int64) (0 : Int32) q6.2 y15 hy15 _ _ _ hw (hg) t_o0 (lv_sub hl [5, 6, 7, 8, 4, 3, 2, 1, 0] rfl) (fun e0 e1 S2 he H locs ls hw hG hl => ?_) (fun r he => ?_)
      · subst he
        have t_o0 := hG.t t_o0
        have hg := hg.tr hG
        exact J161 (sI (pI S3 w0 0 y1) b2 (Int32.toNatClampNeg ((61 : Int32) + x1))) q6.1 e0 e1 S2 _ _ _ h hw hg t_o0 (lv_sub hl [0, 1, 2, 3, 4, 5, 6] rfl)
      · subst he
        exact Option.some.inj h
    · rw [if_neg c24] at h
      refine lv_lconst (v := 0) hx hb dX11_vow_41 (by decide) ?_
      obtain rfl := Option.some.inj h
      exact r_J E hr hlk F hA hw hg dX11_vow_42
  rw [f_X11_vow] at h
  refine lv_aload_n hx hb dX11_vow_0 rfl (lv_at hl 0 rfl) ?_
  refine lv_aload_n hx hb dX11_vow_1 rfl (lv_at hl 0 rfl) ?_
  refine lv_iload_n hx hb dX11_vow_2 rfl (lv_at hl 2 rfl) ?_
  refine lv_iload_n hx hb dX11_vow_3 rfl (lv_at hl 1 rfl) ?_
  obtain ⟨q1, h_q1, h⟩ := bb h
  refine z_VI E F hw [.int x2, .int x1] (k_X11_isHope l D cy kc o0 x2 x1 S h_q1 t_o0) t_o0 cf11 mk_X11_isHope vk_X11_isHope ml_X11_484 ⟨by decide, by decide⟩ rfl hl.1 rfl (Nat.le_of_ble_eq_true rfl) dX11_vow_4 ⟨Nat.zero_le _, Nat.zero_le _⟩ (fun H locs hw hG => ?_)
  have t_o0 := hG.t t_o0
  have hg := hg.tr hG
  refine lv_if_eq (tgt := 30) hx hb dX11_vow_7 (by decide) (fun c29 => ?_) (fun c29 => ?_)
  · rw [if_pos c29] at h
    refine lv_iconst (v := 1) hx hb dX11_vow_30 (by decide) ?_
    exact J31 o0 (1 : Int32) q1.2 _ _ _ h hw hg t_o0 t_o0 (lv_sub hl [0, 1, 2, 3] rfl)
  · rw [if_neg c29] at h
    refine lv_aload_n hx hb dX11_vow_10 rfl (lv_at hl 0 rfl) ?_
    obtain ⟨q25, h_q25, h⟩ := bb h
    refine z_VI E F hw [] (k_X11_things l D cy kc o0 q1.2 h_q25 t_o0) t_o0 cf11 mk_X11_things vk_X11_things ml_X11_314 ⟨by decide, by decide⟩ rfl hl.1 rfl (Nat.le_of_ble_eq_true rfl) dX11_vow_11 ⟨Nat.zero_le _, Nat.zero_le _⟩ (fun H locs hw hG => ?_)
    have t_o0 := hG.t t_o0
    have hg := hg.tr hG
    refine lv_if_le (tgt := 30) hx hb dX11_vow_14 (by decide) (fun c28 => ?_) (fun c28 => ?_)
    · rw [if_pos c28] at h
      refine lv_iconst (v := 1) hx hb dX11_vow_30 (by decide) ?_
      exact J31 o0 (1 : Int32) q25.2 _ _ _ h hw hg t_o0 t_o0 (lv_sub hl [0, 1, 2, 3] rfl)
    · rw [if_neg c28] at h
      refine lv_iload_n hx hb dX11_vow_17 rfl (lv_at hl 3 rfl) ?_
      refine lv_iconst (v := 0) hx hb dX11_vow_18 (by decide) ?_
      refine lv_iconst (v := 2) hx hb dX11_vow_19 (by decide) ?_
      obtain ⟨q26, h_q26, h⟩ := bb h
      refine z_SI E F hw [.int x3, .int (0 : Int32), .int (2 : Int32)] (k_X11_within l D cy kc x3 (0 : Int32) (2 : Int32) q25.2 h_q26) mk_X11_within sk_X11_within ml_X11_303 ⟨by decide, by decide⟩ rfl hl.1 rfl (Nat.le_of_ble_eq_true rfl) dX11_vow_20 ⟨Nat.zero_le _, Nat.zero_le _⟩ (fun H locs hw hG => ?_)
      have t_o0 := hG.t t_o0
      have hg := hg.tr hG
      refine lv_if_eq (tgt := 30) hx hb dX11_vow_23 (by decide) (fun c27 => ?_) (fun c27 => ?_)
      · rw [if_pos c27] at h
        refine lv_iconst (v := 1) hx hb dX11_vow_30 (by decide) ?_
        exact J31 o0 (1 : Int32) q26.2 _ _ _ h hw hg t_o0 t_o0 (lv_sub hl [0, 1, 2, 3] rfl)
      · rw [if_neg c27] at h
        refine lv_iconst (v := 0) hx hb dX11_vow_26 (by decide) ?_
        refine lv_goto (tgt := 31) hx hb dX11_vow_27 (by decide) ?_
        exact J31 o0 (0 : Int32) q26.2 _ _ _ h hw hg t_o0 t_o0 (lv_sub hl [0, 1, 2, 3] rfl)
def f_X11_bind_33 (o0 : Nat) (x1 : Int32) (x2 : Int32) (x3 : Int32) (x4 : Int32) (x5 : Int32) (w0 : Nat) (y1 : Int32) (S3 : PS) : Option (Int64 × PS) :=
  (if (sI (pI S3 w0 0 y1) o0 0) ≤ 0 then (rk (pI S3 w0 0 y1) (sR (pI S3 w0 0 y1) o0 10) 13).bind fun b2 => if ib (((1 : Int32) + ((4 : Int32) * x1)) + (3 : Int32)) (sN (pI S3 w0 0 y1) b2) = true then (rk (pI S3 w0 0 y1) (sR (pI S3 w0 0 y1) o0 10) 13).bind fun b4 => if ib (((1 : Int32) + ((4 : Int32) * x1)) + (3 : Int32)) (sN (pI S3 w0 0 y1) b4) = true then (f_X11_valueNow o0 x2 x3 x4 (pI (pI (pI S3 w0 0 y1) b4 (Int32.toNatClampNeg (((1 : Int32) + ((4 : Int32) * x1)) + (3 : Int32))) (1 : Int32)) o0 19 (1 : Int32))).bind fun q6 => (rk q6.2 (sR q6.2 o0 10) 13).bind fun b7 => if ib (((1 : Int32) + ((4 : Int32) * x1)) + (3 : Int32)) (sN q6.2 b7) = true then (f_X11_valueNow o0 x2 x3 x4 (pI (pI q6.2 b7 (Int32.toNatClampNeg (((1 : Int32) + ((4 : Int32) * x1)) + (3 : Int32))) (0 : Int32)) o0 19 (1 : Int32))).bind fun q9 => (rk q9.2 (sR q9.2 o0 10) 13).bind fun b10 => if ib (((1 : Int32) + ((4 : Int32) * x1)) + (3 : Int32)) (sN q9.2 b10) = true then (f_X11_partsOf o0 x2 (pI (pI q9.2 b10 (Int32.toNatClampNeg (((1 : Int32) + ((4 : Int32) * x1)) + (3 : Int32))) (sI (pI S3 w0 0 y1) b2 (Int32.toNatClampNeg (((1 : Int32) + ((4 : Int32) * x1)) + (3 : Int32))))) o0 19 (1 : Int32))).bind fun q12 => (f_X11_sets o0 (q6.1 - q9.1) q12.1 q12.2).bind fun q13 => (f_X11_partFound o0 x5 q13.2).bind fun q14 => some (q14.1, q14.2) else none else none else none else none else some ((0 : Int64), pI S3 w0 0 y1))
def f_X11_bind (o0 : Nat) (x1 : Int32) (x2 : Int32) (x3 : Int32) (x4 : Int32) (x5 : Int32) (S : PS) : Option (Int64 × PS) :=
  (f_X11_isThing o0 x1 S).bind fun q1 => (if q1.1 = 0 then f_X11_bind_33 o0 x1 x2 x3 x4 x5 o0 (1 : Int32) q1.2 else (f_X11_isOne o0 x2 x3 x4 q1.2).bind fun q16 => (if q16.1 = 0 then f_X11_bind_33 o0 x1 x2 x3 x4 x5 o0 (1 : Int32) q16.2 else (f_X11_isWhat x5 q16.2).bind fun q17 => (if q17.1 = 0 then f_X11_bind_33 o0 x1 x2 x3 x4 x5 o0 (1 : Int32) q17.2 else f_X11_bind_33 o0 x1 x2 x3 x4 x5 o0 (0 : Int32) q17.2)))
set_option maxHeartbeats 4000000 in
set_option maxRecDepth 100000 in
theorem k_X11_bind (l : Launch) (D : va_G) (cy : Nat → ClassId) (kc : Nat → Nat) (o0 : Nat) (x1 : Int32) (x2 : Int32) (x3 : Int32) (x4 : Int32) (x5 : Int32) (S : PS) {qq : Int64 × PS} (h : f_X11_bind o0 x1 x2 x3 x4 x5 S = some qq) (t_o0 : tD S o0 11) : KJ l D cy kc yX11_bind cX11_bind 12 (rmK 11 411 0 0) [.ref o0, .int x1, .int x2, .int x3, .int x4, .int x5] S qq.1 qq.2 := by
  refine K_body (Qc := QJ D cy S qq.2 qq.1) (by decide) (Nat.le_of_ble_eq_true rfl) ?_
  intro p e s m below meth c A ls args E hr hlk hnm hA F hw hl
  have hx := E.1
  have hb := E.2.1
  have hl : lv_has ls 12 [(0, .ref o0), (1, .int x1), (2, .int x2), (3, .int x3), (4, .int x4), (5, .int x5)] := hl
  have hg : Gr S S := Gr.rf
  replace h : (f_X11_bind o0 x1 x2 x3 x4 x5 S).bind some = some qq := by rw [h]; rfl
  have J33 : ∀ (w0 : Nat) (y1 : Int32) (S3 : PS) (H : Heap) (locs : List Loc) (ls : Array Slot), (f_X11_bind_33 o0 x1 x2 x3 x4 x5 w0 y1 S3).bind some = some qq → Wd D cy A s H locs S3 → Gr S S3 → tD S3 o0 11 → tD S3 w0 11 → lv_has ls 12 [(0, .ref o0), (1, .int x1), (2, .int x2), (3, .int x3), (4, .int x4), (5, .int x5)] → W p l e (rmK 11 411 0 0) s m args below meth c H locs 0 0 (MQ below (QJ D cy S qq.2 qq.1 s.heap.size) args s 0 0 A) (F0 m 33 ls [.int y1, .ref w0]) := by
    intro w0 y1 S3 H locs ls h hw hg t_o0 t_w0 hl
    rw [f_X11_bind_33] at h
    refine p_I E F hw t_w0 cf11 fk_X11_1 rfl rfl rfl dX11_bind_33 rfl (fun H locs hw => ?_)
    refine lv_aload_n hx hb dX11_bind_36 rfl (lv_at hl 0 rfl) ?_
    refine g_f E F hw t_o0 cf11 fk_X11_1 dX11_bind_37 rfl ?_
    refine lv_if_le (tgt := 45) hx hb dX11_bind_40 (by decide) (fun c15 => ?_) (fun c15 => ?_)
    · rw [if_pos c15] at h
      refine lv_iconst (v := 1) hx hb dX11_bind_45 (by decide) ?_
      refine lv_iconst (v := 4) hx hb dX11_bind_46 (by decide) ?_
      refine lv_iload_n hx hb dX11_bind_47 rfl (lv_at hl 1 rfl) ?_
      refine lv_imul hx hb dX11_bind_48 ?_
      refine lv_iadd hx hb dX11_bind_49 ?_
      refine lv_iconst (v := 3) hx hb dX11_bind_50 (by decide) ?_
      refine lv_iadd hx hb dX11_bind_51 ?_
      refine lv_istore (lv' := [(6, .int (((1 : Int32) + ((4 : Int32) * x1)) + (3 : Int32))), (0, .ref o0), (1, .int x1), (2, .int x2), (3, .int x3), (4, .int x4), (5, .int x5)]) hx hb dX11_bind_52 hl (by decide) rfl (fun ls hl => ?_)
      refine lv_aload_n hx hb dX11_bind_54 rfl (lv_at hl 1 rfl) ?_
      obtain ⟨b2, r_b2, h⟩ := bb h
      obtain ⟨r_b2, t_b2⟩ := rk_some r_b2
      refine g_R E F hw t_o0 cf11 fk_X11_73 dX11_bind_55 rfl r_b2 ?_
      refine lv_iload hx hb dX11_bind_58 (lv_at hl 0 rfl) ?_
      obtain ⟨c3, h⟩ := bg h
      refine a_i E F hw t_b2 c3 dX11_bind_60 ?_
      refine lv_istore (lv' := [(7, .int (sI (pI S3 w0 0 y1) b2 (Int32.toNatClampNeg (((1 : Int32) + ((4 : Int32) * x1)) + (3 : Int32))))), (6, .int (((1 : Int32) + ((4 : Int32) * x1)) + (3 : Int32))), (0, .ref o0), (1, .int x1), (2, .int x2), (3, .int x3), (4, .int x4), (5, .int x5)]) hx hb dX11_bind_61 hl (by decide) rfl (fun ls hl => ?_)
      refine lv_aload_n hx hb dX11_bind_63 rfl (lv_at hl 2 rfl) ?_
      obtain ⟨b4, r_b4, h⟩ := bb h
      obtain ⟨r_b4, t_b4⟩ := rk_some r_b4
      refine g_R E F hw t_o0 cf11 fk_X11_73 dX11_bind_64 rfl r_b4 ?_
      refine lv_iload hx hb dX11_bind_67 (lv_at hl 1 rfl) ?_
      refine lv_iconst (v := 1) hx hb dX11_bind_69 (by decide) ?_
      obtain ⟨c5, h⟩ := bg h
      refine b_i E F hw t_b4 c5 dX11_bind_70 (fun H locs hw => ?_)
      refine lv_aload_n hx hb dX11_bind_71 rfl (lv_at hl 2 rfl) ?_
      refine lv_iconst (v := 1) hx hb dX11_bind_72 (by decide) ?_
      refine p_I E F hw t_o0 cf11 fk_X11_163 rfl (isB_nar rfl) (isB_fit rfl) dX11_bind_73 rfl (fun H locs hw => ?_)
      refine lv_aload_n hx hb dX11_bind_76 rfl (lv_at hl 2 rfl) ?_
      refine lv_iload_n hx hb dX11_bind_77 rfl (lv_at hl 4 rfl) ?_
      refine lv_iload_n hx hb dX11_bind_78 rfl (lv_at hl 5 rfl) ?_
      refine lv_iload hx hb dX11_bind_79 (lv_at hl 6 rfl) ?_
      obtain ⟨q6, h_q6, h⟩ := bb h
      refine z_VJ E F hw [.int x2, .int x3, .int x4] (k_X11_valueNow l D cy kc o0 x2 x3 x4 (pI (pI (pI S3 w0 0 y1) b4 (Int32.toNatClampNeg (((1 : Int32) + ((4 : Int32) * x1)) + (3 : Int32))) (1 : Int32)) o0 19 (1 : Int32)) h_q6 t_o0) t_o0 cf11 mk_X11_valueNow vk_X11_valueNow ml_X11_439 ⟨by decide, by decide⟩ rfl hl.1 rfl (Nat.le_of_ble_eq_true rfl) dX11_bind_81 ⟨Nat.zero_le _, Nat.zero_le _⟩ (fun H locs hw hG => ?_)
      have t_o0 := hG.t t_o0
      have hg := hg.tr hG
      refine lv_lstore (lv' := [(8, .long q6.1), (7, .int (sI (pI S3 w0 0 y1) b2 (Int32.toNatClampNeg (((1 : Int32) + ((4 : Int32) * x1)) + (3 : Int32))))), (6, .int (((1 : Int32) + ((4 : Int32) * x1)) + (3 : Int32))), (0, .ref o0), (1, .int x1), (2, .int x2), (3, .int x3), (4, .int x4), (5, .int x5)]) hx hb dX11_bind_84 hl (by decide) rfl (fun ls hl => ?_)
      refine lv_aload_n hx hb dX11_bind_86 rfl (lv_at hl 3 rfl) ?_
      obtain ⟨b7, r_b7, h⟩ := bb h
      obtain ⟨r_b7, t_b7⟩ := rk_some r_b7
      refine g_R E F hw t_o0 cf11 fk_X11_73 dX11_bind_87 rfl r_b7 ?_
      refine lv_iload hx hb dX11_bind_90 (lv_at hl 2 rfl) ?_
      refine lv_iconst (v := 0) hx hb dX11_bind_92 (by decide) ?_
      obtain ⟨c8, h⟩ := bg h
      refine b_i E F hw t_b7 c8 dX11_bind_93 (fun H locs hw => ?_)
      refine lv_aload_n hx hb dX11_bind_94 rfl (lv_at hl 3 rfl) ?_
      refine lv_iconst (v := 1) hx hb dX11_bind_95 (by decide) ?_
      refine p_I E F hw t_o0 cf11 fk_X11_163 rfl (isB_nar rfl) (isB_fit rfl) dX11_bind_96 rfl (fun H locs hw => ?_)
      refine lv_aload_n hx hb dX11_bind_99 rfl (lv_at hl 3 rfl) ?_
      refine lv_iload_n hx hb dX11_bind_100 rfl (lv_at hl 5 rfl) ?_
      refine lv_iload_n hx hb dX11_bind_101 rfl (lv_at hl 6 rfl) ?_
      refine lv_iload hx hb dX11_bind_102 (lv_at hl 7 rfl) ?_
      obtain ⟨q9, h_q9, h⟩ := bb h
      refine z_VJ E F hw [.int x2, .int x3, .int x4] (k_X11_valueNow l D cy kc o0 x2 x3 x4 (pI (pI q6.2 b7 (Int32.toNatClampNeg (((1 : Int32) + ((4 : Int32) * x1)) + (3 : Int32))) (0 : Int32)) o0 19 (1 : Int32)) h_q9 t_o0) t_o0 cf11 mk_X11_valueNow vk_X11_valueNow ml_X11_439 ⟨by decide, by decide⟩ rfl hl.1 rfl (Nat.le_of_ble_eq_true rfl) dX11_bind_104 ⟨Nat.zero_le _, Nat.zero_le _⟩ (fun H locs hw hG => ?_)
      have t_o0 := hG.t t_o0
      have hg := hg.tr hG
      refine lv_lstore (lv' := [(10, .long q9.1), (8, .long q6.1), (7, .int (sI (pI S3 w0 0 y1) b2 (Int32.toNatClampNeg (((1 : Int32) + ((4 : Int32) * x1)) + (3 : Int32))))), (6, .int (((1 : Int32) + ((4 : Int32) * x1)) + (3 : Int32))), (0, .ref o0), (1, .int x1), (2, .int x2), (3, .int x3), (4, .int x4), (5, .int x5)]) hx hb dX11_bind_107 hl (by decide) rfl (fun ls hl => ?_)
      refine lv_aload_n hx hb dX11_bind_109 rfl (lv_at hl 4 rfl) ?_
      obtain ⟨b10, r_b10, h⟩ := bb h
      obtain ⟨r_b10, t_b10⟩ := rk_some r_b10
      refine g_R E F hw t_o0 cf11 fk_X11_73 dX11_bind_110 rfl r_b10 ?_
      refine lv_iload hx hb dX11_bind_113 (lv_at hl 3 rfl) ?_
      refine lv_iload hx hb dX11_bind_115 (lv_at hl 2 rfl) ?_
      obtain ⟨c11, h⟩ := bg h
      refine b_i E F hw t_b10 c11 dX11_bind_117 (fun H locs hw => ?_)
      refine lv_aload_n hx hb dX11_bind_118 rfl (lv_at hl 4 rfl) ?_
      refine lv_iconst (v := 1) hx hb dX11_bind_119 (by decide) ?_
      refine p_I E F hw t_o0 cf11 fk_X11_163 rfl (isB_nar rfl) (isB_fit rfl) dX11_bind_120 rfl (fun H locs hw => ?_)
      refine lv_aload_n hx hb dX11_bind_123 rfl (lv_at hl 4 rfl) ?_
      refine lv_lload hx hb dX11_bind_124 (lv_at hl 1 rfl) ?_
      refine lv_lload hx hb dX11_bind_126 (lv_at hl 0 rfl) ?_
      refine lv_lsub hx hb dX11_bind_128 ?_
      refine lv_aload_n hx hb dX11_bind_129 rfl (lv_at hl 4 rfl) ?_
      refine lv_iload_n hx hb dX11_bind_130 rfl (lv_at hl 6 rfl) ?_
      obtain ⟨q12, h_q12, h⟩ := bb h
      refine z_VJ E F hw [.int x2] (k_X11_partsOf l D cy kc o0 x2 (pI (pI q9.2 b10 (Int32.toNatClampNeg (((1 : Int32) + ((4 : Int32) * x1)) + (3 : Int32))) (sI (pI S3 w0 0 y1) b2 (Int32.toNatClampNeg (((1 : Int32) + ((4 : Int32) * x1)) + (3 : Int32))))) o0 19 (1 : Int32)) h_q12 t_o0) t_o0 cf11 mk_X11_partsOf vk_X11_partsOf ml_X11_442 ⟨by decide, by decide⟩ rfl hl.1 rfl (Nat.le_of_ble_eq_true rfl) dX11_bind_131 ⟨Nat.zero_le _, Nat.zero_le _⟩ (fun H locs hw hG => ?_)
      have t_o0 := hG.t t_o0
      have hg := hg.tr hG
      obtain ⟨q13, h_q13, h⟩ := bb h
      refine z_VV E F hw [.long (q6.1 - q9.1), .long q12.1] (k_X11_sets l D cy kc o0 (q6.1 - q9.1) q12.1 q12.2 h_q13 t_o0) t_o0 cf11 mk_X11_sets vk_X11_sets ml_X11_446 ⟨by decide, by decide⟩ rfl hl.1 rfl (Nat.le_of_ble_eq_true rfl) dX11_bind_134 ⟨Nat.zero_le _, Nat.zero_le _⟩ (fun H locs hw hG => ?_)
      have t_o0 := hG.t t_o0
      have hg := hg.tr hG
      refine lv_aload_n hx hb dX11_bind_137 rfl (lv_at hl 4 rfl) ?_
      refine lv_iload hx hb dX11_bind_138 (lv_at hl 9 rfl) ?_
      obtain ⟨q14, h_q14, h⟩ := bb h
      refine z_VJ E F hw [.int x5] (k_X11_partFound l D cy kc o0 x5 q13.2 h_q14 t_o0) t_o0 cf11 mk_X11_partFound vk_X11_partFound ml_X11_450 ⟨by decide, by decide⟩ rfl hl.1 rfl (Nat.le_of_ble_eq_true rfl) dX11_bind_140 ⟨Nat.zero_le _, Nat.zero_le _⟩ (fun H locs hw hG => ?_)
      have t_o0 := hG.t t_o0
      have hg := hg.tr hG
      obtain rfl := Option.some.inj h
      exact r_J E hr hlk F hA hw hg dX11_bind_143
    · rw [if_neg c15] at h
      refine lv_lconst (v := 0) hx hb dX11_bind_43 (by decide) ?_
      obtain rfl := Option.some.inj h
      exact r_J E hr hlk F hA hw hg dX11_bind_44
  rw [f_X11_bind] at h
  refine lv_aload_n hx hb dX11_bind_0 rfl (lv_at hl 0 rfl) ?_
  refine lv_aload_n hx hb dX11_bind_1 rfl (lv_at hl 0 rfl) ?_
  refine lv_iload_n hx hb dX11_bind_2 rfl (lv_at hl 1 rfl) ?_
  obtain ⟨q1, h_q1, h⟩ := bb h
  refine z_VI E F hw [.int x1] (k_X11_isThing l D cy kc o0 x1 S h_q1 t_o0) t_o0 cf11 mk_X11_isThing vk_X11_isThing ml_X11_329 ⟨by decide, by decide⟩ rfl hl.1 rfl (Nat.le_of_ble_eq_true rfl) dX11_bind_3 ⟨Nat.zero_le _, Nat.zero_le _⟩ (fun H locs hw hG => ?_)
  have t_o0 := hG.t t_o0
  have hg := hg.tr hG
  refine lv_if_eq (tgt := 32) hx hb dX11_bind_6 (by decide) (fun c20 => ?_) (fun c20 => ?_)
  · rw [if_pos c20] at h
    refine lv_iconst (v := 1) hx hb dX11_bind_32 (by decide) ?_
    exact J33 o0 (1 : Int32) q1.2 _ _ _ h hw hg t_o0 t_o0 (lv_sub hl [0, 1, 2, 3, 4, 5] rfl)
  · rw [if_neg c20] at h
    refine lv_aload_n hx hb dX11_bind_9 rfl (lv_at hl 0 rfl) ?_
    refine lv_iload_n hx hb dX11_bind_10 rfl (lv_at hl 2 rfl) ?_
    refine lv_iload_n hx hb dX11_bind_11 rfl (lv_at hl 3 rfl) ?_
    refine lv_iload hx hb dX11_bind_12 (lv_at hl 4 rfl) ?_
    obtain ⟨q16, h_q16, h⟩ := bb h
    refine z_VI E F hw [.int x2, .int x3, .int x4] (k_X11_isOne l D cy kc o0 x2 x3 x4 q1.2 h_q16 t_o0) t_o0 cf11 mk_X11_isOne vk_X11_isOne ml_X11_416 ⟨by decide, by decide⟩ rfl hl.1 rfl (Nat.le_of_ble_eq_true rfl) dX11_bind_14 ⟨Nat.zero_le _, Nat.zero_le _⟩ (fun H locs hw hG => ?_)
    have t_o0 := hG.t t_o0
    have hg := hg.tr hG
    refine lv_if_eq (tgt := 32) hx hb dX11_bind_17 (by decide) (fun c19 => ?_) (fun c19 => ?_)
    · rw [if_pos c19] at h
      refine lv_iconst (v := 1) hx hb dX11_bind_32 (by decide) ?_
      exact J33 o0 (1 : Int32) q16.2 _ _ _ h hw hg t_o0 t_o0 (lv_sub hl [0, 1, 2, 3, 4, 5] rfl)
    · rw [if_neg c19] at h
      refine lv_iload hx hb dX11_bind_20 (lv_at hl 5 rfl) ?_
      obtain ⟨q17, h_q17, h⟩ := bb h
      refine z_SI E F hw [.int x5] (k_X11_isWhat l D cy kc x5 q16.2 h_q17) mk_X11_isWhat sk_X11_isWhat ml_X11_436 ⟨by decide, by decide⟩ rfl hl.1 rfl (Nat.le_of_ble_eq_true rfl) dX11_bind_22 ⟨Nat.zero_le _, Nat.zero_le _⟩ (fun H locs hw hG => ?_)
      have t_o0 := hG.t t_o0
      have hg := hg.tr hG
      refine lv_if_eq (tgt := 32) hx hb dX11_bind_25 (by decide) (fun c18 => ?_) (fun c18 => ?_)
      · rw [if_pos c18] at h
        refine lv_iconst (v := 1) hx hb dX11_bind_32 (by decide) ?_
        exact J33 o0 (1 : Int32) q17.2 _ _ _ h hw hg t_o0 t_o0 (lv_sub hl [0, 1, 2, 3, 4, 5] rfl)
      · rw [if_neg c18] at h
        refine lv_iconst (v := 0) hx hb dX11_bind_28 (by decide) ?_
        refine lv_goto (tgt := 33) hx hb dX11_bind_29 (by decide) ?_
        exact J33 o0 (0 : Int32) q17.2 _ _ _ h hw hg t_o0 t_o0 (lv_sub hl [0, 1, 2, 3, 4, 5] rfl)
def f_X11_valueAsked (o0 : Nat) (x1 : Int32) (x2 : Int32) (x3 : Int32) (x4 : Int32) (x5 : Int32) (S : PS) : Option (Int64 × PS) :=
  (rk S (sR S o0 10) 13).bind fun b1 => if ib ((45 : Int32) + x3) (sN S b1) = true then (rk (pI S b1 (Int32.toNatClampNeg ((45 : Int32) + x3)) (x1 + (1 : Int32))) (sR (pI S b1 (Int32.toNatClampNeg ((45 : Int32) + x3)) (x1 + (1 : Int32))) o0 10) 13).bind fun b3 => if ib (((45 : Int32) + x3) + (1 : Int32)) (sN (pI S b1 (Int32.toNatClampNeg ((45 : Int32) + x3)) (x1 + (1 : Int32))) b3) = true then (f_X11_valueNow o0 x3 x4 x5 (pI (pI (pI S b1 (Int32.toNatClampNeg ((45 : Int32) + x3)) (x1 + (1 : Int32))) b3 (Int32.toNatClampNeg (((45 : Int32) + x3) + (1 : Int32))) (x2 + (1 : Int32))) o0 19 (1 : Int32))).bind fun q5 => some (q5.1, q5.2) else none else none
set_option maxHeartbeats 4000000 in
set_option maxRecDepth 100000 in
theorem k_X11_valueAsked (l : Launch) (D : va_G) (cy : Nat → ClassId) (kc : Nat → Nat) (o0 : Nat) (x1 : Int32) (x2 : Int32) (x3 : Int32) (x4 : Int32) (x5 : Int32) (S : PS) {qq : Int64 × PS} (h : f_X11_valueAsked o0 x1 x2 x3 x4 x5 S = some qq) (t_o0 : tD S o0 11) : KJ l D cy kc yX11_valueAsked cX11_valueAsked 6 (rmK 11 411 0 0) [.ref o0, .int x1, .int x2, .int x3, .int x4, .int x5] S qq.1 qq.2 := by
  refine K_body (Qc := QJ D cy S qq.2 qq.1) (by decide) (Nat.le_of_ble_eq_true rfl) ?_
  intro p e s m below meth c A ls args E hr hlk hnm hA F hw hl
  have hx := E.1
  have hb := E.2.1
  have hl : lv_has ls 6 [(0, .ref o0), (1, .int x1), (2, .int x2), (3, .int x3), (4, .int x4), (5, .int x5)] := hl
  have hg : Gr S S := Gr.rf
  replace h : (f_X11_valueAsked o0 x1 x2 x3 x4 x5 S).bind some = some qq := by rw [h]; rfl
  rw [f_X11_valueAsked] at h
  refine lv_aload_n hx hb dX11_valueAsked_0 rfl (lv_at hl 0 rfl) ?_
  obtain ⟨b1, r_b1, h⟩ := bb h
  obtain ⟨r_b1, t_b1⟩ := rk_some r_b1
  refine g_R E F hw t_o0 cf11 fk_X11_73 dX11_valueAsked_1 rfl r_b1 ?_
  refine lv_bipush (v := 45) hx hb dX11_valueAsked_4 (by decide) ?_
  refine lv_iload_n hx hb dX11_valueAsked_6 rfl (lv_at hl 3 rfl) ?_
  refine lv_iadd hx hb dX11_valueAsked_7 ?_
  refine lv_iload_n hx hb dX11_valueAsked_8 rfl (lv_at hl 1 rfl) ?_
  refine lv_iconst (v := 1) hx hb dX11_valueAsked_9 (by decide) ?_
  refine lv_iadd hx hb dX11_valueAsked_10 ?_
  obtain ⟨c2, h⟩ := bg h
  refine b_i E F hw t_b1 c2 dX11_valueAsked_11 (fun H locs hw => ?_)
  refine lv_aload_n hx hb dX11_valueAsked_12 rfl (lv_at hl 0 rfl) ?_
  obtain ⟨b3, r_b3, h⟩ := bb h
  obtain ⟨r_b3, t_b3⟩ := rk_some r_b3
  refine g_R E F hw t_o0 cf11 fk_X11_73 dX11_valueAsked_13 rfl r_b3 ?_
  refine lv_bipush (v := 45) hx hb dX11_valueAsked_16 (by decide) ?_
  refine lv_iload_n hx hb dX11_valueAsked_18 rfl (lv_at hl 3 rfl) ?_
  refine lv_iadd hx hb dX11_valueAsked_19 ?_
  refine lv_iconst (v := 1) hx hb dX11_valueAsked_20 (by decide) ?_
  refine lv_iadd hx hb dX11_valueAsked_21 ?_
  refine lv_iload_n hx hb dX11_valueAsked_22 rfl (lv_at hl 2 rfl) ?_
  refine lv_iconst (v := 1) hx hb dX11_valueAsked_23 (by decide) ?_
  refine lv_iadd hx hb dX11_valueAsked_24 ?_
  obtain ⟨c4, h⟩ := bg h
  refine b_i E F hw t_b3 c4 dX11_valueAsked_25 (fun H locs hw => ?_)
  refine lv_aload_n hx hb dX11_valueAsked_26 rfl (lv_at hl 0 rfl) ?_
  refine lv_iconst (v := 1) hx hb dX11_valueAsked_27 (by decide) ?_
  refine p_I E F hw t_o0 cf11 fk_X11_163 rfl (isB_nar rfl) (isB_fit rfl) dX11_valueAsked_28 rfl (fun H locs hw => ?_)
  refine lv_aload_n hx hb dX11_valueAsked_31 rfl (lv_at hl 0 rfl) ?_
  refine lv_iload_n hx hb dX11_valueAsked_32 rfl (lv_at hl 3 rfl) ?_
  refine lv_iload hx hb dX11_valueAsked_33 (lv_at hl 4 rfl) ?_
  refine lv_iload hx hb dX11_valueAsked_35 (lv_at hl 5 rfl) ?_
  obtain ⟨q5, h_q5, h⟩ := bb h
  refine z_VJ E F hw [.int x3, .int x4, .int x5] (k_X11_valueNow l D cy kc o0 x3 x4 x5 (pI (pI (pI S b1 (Int32.toNatClampNeg ((45 : Int32) + x3)) (x1 + (1 : Int32))) b3 (Int32.toNatClampNeg (((45 : Int32) + x3) + (1 : Int32))) (x2 + (1 : Int32))) o0 19 (1 : Int32)) h_q5 t_o0) t_o0 cf11 mk_X11_valueNow vk_X11_valueNow ml_X11_439 ⟨by decide, by decide⟩ rfl hl.1 rfl (Nat.le_of_ble_eq_true rfl) dX11_valueAsked_37 ⟨Nat.zero_le _, Nat.zero_le _⟩ (fun H locs hw hG => ?_)
  have t_o0 := hG.t t_o0
  have hg := hg.tr hG
  obtain rfl := Option.some.inj h
  exact r_J E hr hlk F hA hw hg dX11_valueAsked_40
def f_X11_order_69 (o0 : Nat) (x1 : Int32) (x2 : Int32) (x3 : Int32) (x4 : Int32) (x5 : Int32) (x6 : Int32) (w0 : Nat) (y1 : Int32) (S3 : PS) : Option (Int64 × PS) :=
  (if (sI (pI S3 w0 0 y1) o0 0) ≤ 0 then (rk (pI S3 w0 0 y1) (sR (pI S3 w0 0 y1) o0 10) 13).bind fun b2 => if ib ((45 : Int32) + x3) (sN (pI S3 w0 0 y1) b2) = true then (rk (pI S3 w0 0 y1) (sR (pI S3 w0 0 y1) o0 10) 13).bind fun b4 => if ib (((45 : Int32) + x3) + (1 : Int32)) (sN (pI S3 w0 0 y1) b4) = true then (f_X11_valueAsked o0 x1 x2 x3 x4 x5 (pI S3 w0 0 y1)).bind fun q6 => (f_X11_valueAsked o0 x2 x1 x3 x4 x5 q6.2).bind fun q7 => (rk q7.2 (sR q7.2 o0 10) 13).bind fun b8 => if ib ((45 : Int32) + x3) (sN q7.2 b8) = true then (rk (pI q7.2 b8 (Int32.toNatClampNeg ((45 : Int32) + x3)) (sI (pI S3 w0 0 y1) b2 (Int32.toNatClampNeg ((45 : Int32) + x3)))) (sR (pI q7.2 b8 (Int32.toNatClampNeg ((45 : Int32) + x3)) (sI (pI S3 w0 0 y1) b2 (Int32.toNatClampNeg ((45 : Int32) + x3)))) o0 10) 13).bind fun b10 => if ib (((45 : Int32) + x3) + (1 : Int32)) (sN (pI q7.2 b8 (Int32.toNatClampNeg ((45 : Int32) + x3)) (sI (pI S3 w0 0 y1) b2 (Int32.toNatClampNeg ((45 : Int32) + x3)))) b10) = true then (f_X11_partsOf o0 x3 (pI (pI (pI q7.2 b8 (Int32.toNatClampNeg ((45 : Int32) + x3)) (sI (pI S3 w0 0 y1) b2 (Int32.toNatClampNeg ((45 : Int32) + x3)))) b10 (Int32.toNatClampNeg (((45 : Int32) + x3) + (1 : Int32))) (sI (pI S3 w0 0 y1) b4 (Int32.toNatClampNeg (((45 : Int32) + x3) + (1 : Int32))))) o0 19 (1 : Int32))).bind fun q12 => (f_X11_sets o0 (q6.1 - q7.1) q12.1 q12.2).bind fun q13 => (f_X11_partFound o0 x6 q13.2).bind fun q14 => some (q14.1, q14.2) else none else none else none else none else some ((0 : Int64), pI S3 w0 0 y1))
def f_X11_order_48 (o0 : Nat) (x1 : Int32) (x2 : Int32) (x3 : Int32) (x4 : Int32) (x5 : Int32) (x6 : Int32) (y0 : Int32) (S3 : PS) : Option (Int64 × PS) :=
  (if y0 = 0 then f_X11_order_69 o0 x1 x2 x3 x4 x5 x6 o0 (1 : Int32) S3 else (f_X11_isWhat x6 S3).bind fun q16 => (if q16.1 = 0 then f_X11_order_69 o0 x1 x2 x3 x4 x5 x6 o0 (1 : Int32) q16.2 else f_X11_order_69 o0 x1 x2 x3 x4 x5 x6 o0 (0 : Int32) q16.2))
def f_X11_order (o0 : Nat) (x1 : Int32) (x2 : Int32) (x3 : Int32) (x4 : Int32) (x5 : Int32) (x6 : Int32) (S : PS) : Option (Int64 × PS) :=
  (f_X11_isThing o0 x1 S).bind fun q1 => (if q1.1 = 0 then f_X11_order_48 o0 x1 x2 x3 x4 x5 x6 (0 : Int32) q1.2 else (f_X11_isThing o0 x2 q1.2).bind fun q19 => (if q19.1 = 0 then f_X11_order_48 o0 x1 x2 x3 x4 x5 x6 (0 : Int32) q19.2 else (if x1 = x2 then f_X11_order_48 o0 x1 x2 x3 x4 x5 x6 (0 : Int32) q19.2 else (f_X11_isOne o0 x3 x4 x5 q19.2).bind fun q20 => (if q20.1 = 0 then f_X11_order_48 o0 x1 x2 x3 x4 x5 x6 (0 : Int32) q20.2 else (f_X11_isSpring o0 (x3 + (1 : Int32)) q20.2).bind fun q21 => (if q21.1 = 0 then f_X11_order_48 o0 x1 x2 x3 x4 x5 x6 (0 : Int32) q21.2 else f_X11_order_48 o0 x1 x2 x3 x4 x5 x6 (1 : Int32) q21.2)))))
set_option maxHeartbeats 4000000 in
set_option maxRecDepth 100000 in
theorem k_X11_order (l : Launch) (D : va_G) (cy : Nat → ClassId) (kc : Nat → Nat) (o0 : Nat) (x1 : Int32) (x2 : Int32) (x3 : Int32) (x4 : Int32) (x5 : Int32) (x6 : Int32) (S : PS) {qq : Int64 × PS} (h : f_X11_order o0 x1 x2 x3 x4 x5 x6 S = some qq) (t_o0 : tD S o0 11) : KJ l D cy kc yX11_order cX11_order 14 (rmK 12 452 0 0) [.ref o0, .int x1, .int x2, .int x3, .int x4, .int x5, .int x6] S qq.1 qq.2 := by
  refine K_body (Qc := QJ D cy S qq.2 qq.1) (by decide) (Nat.le_of_ble_eq_true rfl) ?_
  intro p e s m below meth c A ls args E hr hlk hnm hA F hw hl
  have hx := E.1
  have hb := E.2.1
  have hl : lv_has ls 14 [(0, .ref o0), (1, .int x1), (2, .int x2), (3, .int x3), (4, .int x4), (5, .int x5), (6, .int x6)] := hl
  have hg : Gr S S := Gr.rf
  replace h : (f_X11_order o0 x1 x2 x3 x4 x5 x6 S).bind some = some qq := by rw [h]; rfl
  have J69 : ∀ (w0 : Nat) (y1 : Int32) (S3 : PS) (H : Heap) (locs : List Loc) (ls : Array Slot), (f_X11_order_69 o0 x1 x2 x3 x4 x5 x6 w0 y1 S3).bind some = some qq → Wd D cy A s H locs S3 → Gr S S3 → tD S3 o0 11 → tD S3 w0 11 → lv_has ls 14 [(0, .ref o0), (1, .int x1), (2, .int x2), (3, .int x3), (4, .int x4), (5, .int x5), (6, .int x6)] → W p l e (rmK 12 452 0 0) s m args below meth c H locs 0 0 (MQ below (QJ D cy S qq.2 qq.1 s.heap.size) args s 0 0 A) (F0 m 69 ls [.int y1, .ref w0]) := by
    intro w0 y1 S3 H locs ls h hw hg t_o0 t_w0 hl
    rw [f_X11_order_69] at h
    refine p_I E F hw t_w0 cf11 fk_X11_1 rfl rfl rfl dX11_order_69 rfl (fun H locs hw => ?_)
    refine lv_aload_n hx hb dX11_order_72 rfl (lv_at hl 0 rfl) ?_
    refine g_f E F hw t_o0 cf11 fk_X11_1 dX11_order_73 rfl ?_
    refine lv_if_le (tgt := 81) hx hb dX11_order_76 (by decide) (fun c15 => ?_) (fun c15 => ?_)
    · rw [if_pos c15] at h
      refine lv_aload_n hx hb dX11_order_81 rfl (lv_at hl 0 rfl) ?_
      obtain ⟨b2, r_b2, h⟩ := bb h
      obtain ⟨r_b2, t_b2⟩ := rk_some r_b2
      refine g_R E F hw t_o0 cf11 fk_X11_73 dX11_order_82 rfl r_b2 ?_
      refine lv_bipush (v := 45) hx hb dX11_order_85 (by decide) ?_
      refine lv_iload_n hx hb dX11_order_87 rfl (lv_at hl 3 rfl) ?_
      refine lv_iadd hx hb dX11_order_88 ?_
      obtain ⟨c3, h⟩ := bg h
      refine a_i E F hw t_b2 c3 dX11_order_89 ?_
      refine lv_istore (lv' := [(8, .int (sI (pI S3 w0 0 y1) b2 (Int32.toNatClampNeg ((45 : Int32) + x3)))), (0, .ref o0), (1, .int x1), (2, .int x2), (3, .int x3), (4, .int x4), (5, .int x5), (6, .int x6)]) hx hb dX11_order_90 hl (by decide) rfl (fun ls hl => ?_)
      refine lv_aload_n hx hb dX11_order_92 rfl (lv_at hl 1 rfl) ?_
      obtain ⟨b4, r_b4, h⟩ := bb h
      obtain ⟨r_b4, t_b4⟩ := rk_some r_b4
      refine g_R E F hw t_o0 cf11 fk_X11_73 dX11_order_93 rfl r_b4 ?_
      refine lv_bipush (v := 45) hx hb dX11_order_96 (by decide) ?_
      refine lv_iload_n hx hb dX11_order_98 rfl (lv_at hl 4 rfl) ?_
      refine lv_iadd hx hb dX11_order_99 ?_
      refine lv_iconst (v := 1) hx hb dX11_order_100 (by decide) ?_
      refine lv_iadd hx hb dX11_order_101 ?_
      obtain ⟨c5, h⟩ := bg h
      refine a_i E F hw t_b4 c5 dX11_order_102 ?_
      refine lv_istore (lv' := [(9, .int (sI (pI S3 w0 0 y1) b4 (Int32.toNatClampNeg (((45 : Int32) + x3) + (1 : Int32))))), (8, .int (sI (pI S3 w0 0 y1) b2 (Int32.toNatClampNeg ((45 : Int32) + x3)))), (0, .ref o0), (1, .int x1), (2, .int x2), (3, .int x3), (4, .int x4), (5, .int x5), (6, .int x6)]) hx hb dX11_order_103 hl (by decide) rfl (fun ls hl => ?_)
      refine lv_aload_n hx hb dX11_order_105 rfl (lv_at hl 2 rfl) ?_
      refine lv_iload_n hx hb dX11_order_106 rfl (lv_at hl 3 rfl) ?_
      refine lv_iload_n hx hb dX11_order_107 rfl (lv_at hl 4 rfl) ?_
      refine lv_iload_n hx hb dX11_order_108 rfl (lv_at hl 5 rfl) ?_
      refine lv_iload hx hb dX11_order_109 (lv_at hl 6 rfl) ?_
      refine lv_iload hx hb dX11_order_111 (lv_at hl 7 rfl) ?_
      obtain ⟨q6, h_q6, h⟩ := bb h
      refine z_VJ E F hw [.int x1, .int x2, .int x3, .int x4, .int x5] (k_X11_valueAsked l D cy kc o0 x1 x2 x3 x4 x5 (pI S3 w0 0 y1) h_q6 t_o0) t_o0 cf11 mk_X11_valueAsked vk_X11_valueAsked ml_X11_491 ⟨by decide, by decide⟩ rfl hl.1 rfl (Nat.le_of_ble_eq_true rfl) dX11_order_113 ⟨Nat.zero_le _, Nat.zero_le _⟩ (fun H locs hw hG => ?_)
      have t_o0 := hG.t t_o0
      have hg := hg.tr hG
      refine lv_lstore (lv' := [(10, .long q6.1), (9, .int (sI (pI S3 w0 0 y1) b4 (Int32.toNatClampNeg (((45 : Int32) + x3) + (1 : Int32))))), (8, .int (sI (pI S3 w0 0 y1) b2 (Int32.toNatClampNeg ((45 : Int32) + x3)))), (0, .ref o0), (1, .int x1), (2, .int x2), (3, .int x3), (4, .int x4), (5, .int x5), (6, .int x6)]) hx hb dX11_order_116 hl (by decide) rfl (fun ls hl => ?_)
      refine lv_aload_n hx hb dX11_order_118 rfl (lv_at hl 3 rfl) ?_
      refine lv_iload_n hx hb dX11_order_119 rfl (lv_at hl 5 rfl) ?_
      refine lv_iload_n hx hb dX11_order_120 rfl (lv_at hl 4 rfl) ?_
      refine lv_iload_n hx hb dX11_order_121 rfl (lv_at hl 6 rfl) ?_
      refine lv_iload hx hb dX11_order_122 (lv_at hl 7 rfl) ?_
      refine lv_iload hx hb dX11_order_124 (lv_at hl 8 rfl) ?_
      obtain ⟨q7, h_q7, h⟩ := bb h
      refine z_VJ E F hw [.int x2, .int x1, .int x3, .int x4, .int x5] (k_X11_valueAsked l D cy kc o0 x2 x1 x3 x4 x5 q6.2 h_q7 t_o0) t_o0 cf11 mk_X11_valueAsked vk_X11_valueAsked ml_X11_491 ⟨by decide, by decide⟩ rfl hl.1 rfl (Nat.le_of_ble_eq_true rfl) dX11_order_126 ⟨Nat.zero_le _, Nat.zero_le _⟩ (fun H locs hw hG => ?_)
      have t_o0 := hG.t t_o0
      have hg := hg.tr hG
      refine lv_lstore (lv' := [(12, .long q7.1), (10, .long q6.1), (9, .int (sI (pI S3 w0 0 y1) b4 (Int32.toNatClampNeg (((45 : Int32) + x3) + (1 : Int32))))), (8, .int (sI (pI S3 w0 0 y1) b2 (Int32.toNatClampNeg ((45 : Int32) + x3)))), (0, .ref o0), (1, .int x1), (2, .int x2), (3, .int x3), (4, .int x4), (5, .int x5), (6, .int x6)]) hx hb dX11_order_129 hl (by decide) rfl (fun ls hl => ?_)
      refine lv_aload_n hx hb dX11_order_131 rfl (lv_at hl 4 rfl) ?_
      obtain ⟨b8, r_b8, h⟩ := bb h
      obtain ⟨r_b8, t_b8⟩ := rk_some r_b8
      refine g_R E F hw t_o0 cf11 fk_X11_73 dX11_order_132 rfl r_b8 ?_
      refine lv_bipush (v := 45) hx hb dX11_order_135 (by decide) ?_
      refine lv_iload_n hx hb dX11_order_137 rfl (lv_at hl 7 rfl) ?_
      refine lv_iadd hx hb dX11_order_138 ?_
      refine lv_iload hx hb dX11_order_139 (lv_at hl 3 rfl) ?_
      obtain ⟨c9, h⟩ := bg h
      refine b_i E F hw t_b8 c9 dX11_order_141 (fun H locs hw => ?_)
      refine lv_aload_n hx hb dX11_order_142 rfl (lv_at hl 4 rfl) ?_
      obtain ⟨b10, r_b10, h⟩ := bb h
      obtain ⟨r_b10, t_b10⟩ := rk_some r_b10
      refine g_R E F hw t_o0 cf11 fk_X11_73 dX11_order_143 rfl r_b10 ?_
      refine lv_bipush (v := 45) hx hb dX11_order_146 (by decide) ?_
      refine lv_iload_n hx hb dX11_order_148 rfl (lv_at hl 7 rfl) ?_
      refine lv_iadd hx hb dX11_order_149 ?_
      refine lv_iconst (v := 1) hx hb dX11_order_150 (by decide) ?_
      refine lv_iadd hx hb dX11_order_151 ?_
      refine lv_iload hx hb dX11_order_152 (lv_at hl 2 rfl) ?_
      obtain ⟨c11, h⟩ := bg h
      refine b_i E F hw t_b10 c11 dX11_order_154 (fun H locs hw => ?_)
      refine lv_aload_n hx hb dX11_order_155 rfl (lv_at hl 4 rfl) ?_
      refine lv_iconst (v := 1) hx hb dX11_order_156 (by decide) ?_
      refine p_I E F hw t_o0 cf11 fk_X11_163 rfl (isB_nar rfl) (isB_fit rfl) dX11_order_157 rfl (fun H locs hw => ?_)
      refine lv_aload_n hx hb dX11_order_160 rfl (lv_at hl 4 rfl) ?_
      refine lv_lload hx hb dX11_order_161 (lv_at hl 1 rfl) ?_
      refine lv_lload hx hb dX11_order_163 (lv_at hl 0 rfl) ?_
      refine lv_lsub hx hb dX11_order_165 ?_
      refine lv_aload_n hx hb dX11_order_166 rfl (lv_at hl 4 rfl) ?_
      refine lv_iload_n hx hb dX11_order_167 rfl (lv_at hl 7 rfl) ?_
      obtain ⟨q12, h_q12, h⟩ := bb h
      refine z_VJ E F hw [.int x3] (k_X11_partsOf l D cy kc o0 x3 (pI (pI (pI q7.2 b8 (Int32.toNatClampNeg ((45 : Int32) + x3)) (sI (pI S3 w0 0 y1) b2 (Int32.toNatClampNeg ((45 : Int32) + x3)))) b10 (Int32.toNatClampNeg (((45 : Int32) + x3) + (1 : Int32))) (sI (pI S3 w0 0 y1) b4 (Int32.toNatClampNeg (((45 : Int32) + x3) + (1 : Int32))))) o0 19 (1 : Int32)) h_q12 t_o0) t_o0 cf11 mk_X11_partsOf vk_X11_partsOf ml_X11_442 ⟨by decide, by decide⟩ rfl hl.1 rfl (Nat.le_of_ble_eq_true rfl) dX11_order_168 ⟨Nat.zero_le _, Nat.zero_le _⟩ (fun H locs hw hG => ?_)
      have t_o0 := hG.t t_o0
      have hg := hg.tr hG
      obtain ⟨q13, h_q13, h⟩ := bb h
      refine z_VV E F hw [.long (q6.1 - q7.1), .long q12.1] (k_X11_sets l D cy kc o0 (q6.1 - q7.1) q12.1 q12.2 h_q13 t_o0) t_o0 cf11 mk_X11_sets vk_X11_sets ml_X11_446 ⟨by decide, by decide⟩ rfl hl.1 rfl (Nat.le_of_ble_eq_true rfl) dX11_order_171 ⟨Nat.zero_le _, Nat.zero_le _⟩ (fun H locs hw hG => ?_)
      have t_o0 := hG.t t_o0
      have hg := hg.tr hG
      refine lv_aload_n hx hb dX11_order_174 rfl (lv_at hl 4 rfl) ?_
      refine lv_iload hx hb dX11_order_175 (lv_at hl 10 rfl) ?_
      obtain ⟨q14, h_q14, h⟩ := bb h
      refine z_VJ E F hw [.int x6] (k_X11_partFound l D cy kc o0 x6 q13.2 h_q14 t_o0) t_o0 cf11 mk_X11_partFound vk_X11_partFound ml_X11_450 ⟨by decide, by decide⟩ rfl hl.1 rfl (Nat.le_of_ble_eq_true rfl) dX11_order_177 ⟨Nat.zero_le _, Nat.zero_le _⟩ (fun H locs hw hG => ?_)
      have t_o0 := hG.t t_o0
      have hg := hg.tr hG
      obtain rfl := Option.some.inj h
      exact r_J E hr hlk F hA hw hg dX11_order_180
    · rw [if_neg c15] at h
      refine lv_lconst (v := 0) hx hb dX11_order_79 (by decide) ?_
      obtain rfl := Option.some.inj h
      exact r_J E hr hlk F hA hw hg dX11_order_80
  have J48 : ∀ (y0 : Int32) (S3 : PS) (H : Heap) (locs : List Loc) (ls : Array Slot), (f_X11_order_48 o0 x1 x2 x3 x4 x5 x6 y0 S3).bind some = some qq → Wd D cy A s H locs S3 → Gr S S3 → tD S3 o0 11 → lv_has ls 14 [(0, .ref o0), (1, .int x1), (2, .int x2), (3, .int x3), (4, .int x4), (5, .int x5), (6, .int x6)] → W p l e (rmK 12 452 0 0) s m args below meth c H locs 0 0 (MQ below (QJ D cy S qq.2 qq.1 s.heap.size) args s 0 0 A) (F0 m 48 ls [.int y0]) := by
    intro y0 S3 H locs ls h hw hg t_o0 hl
    rw [f_X11_order_48] at h
    refine lv_istore (lv' := [(7, .int y0), (0, .ref o0), (1, .int x1), (2, .int x2), (3, .int x3), (4, .int x4), (5, .int x5), (6, .int x6)]) hx hb dX11_order_48 hl (by decide) rfl (fun ls hl => ?_)
    refine lv_aload_n hx hb dX11_order_50 rfl (lv_at hl 1 rfl) ?_
    refine lv_iload hx hb dX11_order_51 (lv_at hl 0 rfl) ?_
    refine lv_if_eq (tgt := 68) hx hb dX11_order_53 (by decide) (fun c18 => ?_) (fun c18 => ?_)
    · rw [if_pos c18] at h
      refine lv_iconst (v := 1) hx hb dX11_order_68 (by decide) ?_
      exact J69 o0 (1 : Int32) S3 _ _ _ h hw hg t_o0 t_o0 (lv_sub hl [1, 2, 3, 4, 5, 6, 7] rfl)
    · rw [if_neg c18] at h
      refine lv_iload hx hb dX11_order_56 (lv_at hl 7 rfl) ?_
      obtain ⟨q16, h_q16, h⟩ := bb h
      refine z_SI E F hw [.int x6] (k_X11_isWhat l D cy kc x6 S3 h_q16) mk_X11_isWhat sk_X11_isWhat ml_X11_436 ⟨by decide, by decide⟩ rfl hl.1 rfl (Nat.le_of_ble_eq_true rfl) dX11_order_58 ⟨Nat.zero_le _, Nat.zero_le _⟩ (fun H locs hw hG => ?_)
      have t_o0 := hG.t t_o0
      have hg := hg.tr hG
      refine lv_if_eq (tgt := 68) hx hb dX11_order_61 (by decide) (fun c17 => ?_) (fun c17 => ?_)
      · rw [if_pos c17] at h
        refine lv_iconst (v := 1) hx hb dX11_order_68 (by decide) ?_
        exact J69 o0 (1 : Int32) q16.2 _ _ _ h hw hg t_o0 t_o0 (lv_sub hl [1, 2, 3, 4, 5, 6, 7] rfl)
      · rw [if_neg c17] at h
        refine lv_iconst (v := 0) hx hb dX11_order_64 (by decide) ?_
        refine lv_goto (tgt := 69) hx hb dX11_order_65 (by decide) ?_
        exact J69 o0 (0 : Int32) q16.2 _ _ _ h hw hg t_o0 t_o0 (lv_sub hl [1, 2, 3, 4, 5, 6, 7] rfl)
  rw [f_X11_order] at h
  refine lv_aload_n hx hb dX11_order_0 rfl (lv_at hl 0 rfl) ?_
  refine lv_iload_n hx hb dX11_order_1 rfl (lv_at hl 1 rfl) ?_
  obtain ⟨q1, h_q1, h⟩ := bb h
  refine z_VI E F hw [.int x1] (k_X11_isThing l D cy kc o0 x1 S h_q1 t_o0) t_o0 cf11 mk_X11_isThing vk_X11_isThing ml_X11_329 ⟨by decide, by decide⟩ rfl hl.1 rfl (Nat.le_of_ble_eq_true rfl) dX11_order_2 ⟨Nat.zero_le _, Nat.zero_le _⟩ (fun H locs hw hG => ?_)
  have t_o0 := hG.t t_o0
  have hg := hg.tr hG
  refine lv_if_eq (tgt := 47) hx hb dX11_order_5 (by decide) (fun c26 => ?_) (fun c26 => ?_)
  · rw [if_pos c26] at h
    refine lv_iconst (v := 0) hx hb dX11_order_47 (by decide) ?_
    exact J48 (0 : Int32) q1.2 _ _ _ h hw hg t_o0 (lv_sub hl [0, 1, 2, 3, 4, 5, 6] rfl)
  · rw [if_neg c26] at h
    refine lv_aload_n hx hb dX11_order_8 rfl (lv_at hl 0 rfl) ?_
    refine lv_iload_n hx hb dX11_order_9 rfl (lv_at hl 2 rfl) ?_
    obtain ⟨q19, h_q19, h⟩ := bb h
    refine z_VI E F hw [.int x2] (k_X11_isThing l D cy kc o0 x2 q1.2 h_q19 t_o0) t_o0 cf11 mk_X11_isThing vk_X11_isThing ml_X11_329 ⟨by decide, by decide⟩ rfl hl.1 rfl (Nat.le_of_ble_eq_true rfl) dX11_order_10 ⟨Nat.zero_le _, Nat.zero_le _⟩ (fun H locs hw hG => ?_)
    have t_o0 := hG.t t_o0
    have hg := hg.tr hG
    refine lv_if_eq (tgt := 47) hx hb dX11_order_13 (by decide) (fun c25 => ?_) (fun c25 => ?_)
    · rw [if_pos c25] at h
      refine lv_iconst (v := 0) hx hb dX11_order_47 (by decide) ?_
      exact J48 (0 : Int32) q19.2 _ _ _ h hw hg t_o0 (lv_sub hl [0, 1, 2, 3, 4, 5, 6] rfl)
    · rw [if_neg c25] at h
      refine lv_iload_n hx hb dX11_order_16 rfl (lv_at hl 1 rfl) ?_
      refine lv_iload_n hx hb dX11_order_17 rfl (lv_at hl 2 rfl) ?_
      refine lv_icmp_eq (tgt := 47) hx hb dX11_order_18 (by decide) (fun c24 => ?_) (fun c24 => ?_)
      · rw [if_pos c24] at h
        refine lv_iconst (v := 0) hx hb dX11_order_47 (by decide) ?_
        exact J48 (0 : Int32) q19.2 _ _ _ h hw hg t_o0 (lv_sub hl [0, 1, 2, 3, 4, 5, 6] rfl)
      · rw [if_neg c24] at h
        refine lv_aload_n hx hb dX11_order_21 rfl (lv_at hl 0 rfl) ?_
        refine lv_iload_n hx hb dX11_order_22 rfl (lv_at hl 3 rfl) ?_
        refine lv_iload hx hb dX11_order_23 (lv_at hl 4 rfl) ?_
        refine lv_iload hx hb dX11_order_25 (lv_at hl 5 rfl) ?_
        obtain ⟨q20, h_q20, h⟩ := bb h
        refine z_VI E F hw [.int x3, .int x4, .int x5] (k_X11_isOne l D cy kc o0 x3 x4 x5 q19.2 h_q20 t_o0) t_o0 cf11 mk_X11_isOne vk_X11_isOne ml_X11_416 ⟨by decide, by decide⟩ rfl hl.1 rfl (Nat.le_of_ble_eq_true rfl) dX11_order_27 ⟨Nat.zero_le _, Nat.zero_le _⟩ (fun H locs hw hG => ?_)
        have t_o0 := hG.t t_o0
        have hg := hg.tr hG
        refine lv_if_eq (tgt := 47) hx hb dX11_order_30 (by decide) (fun c23 => ?_) (fun c23 => ?_)
        · rw [if_pos c23] at h
          refine lv_iconst (v := 0) hx hb dX11_order_47 (by decide) ?_
          exact J48 (0 : Int32) q20.2 _ _ _ h hw hg t_o0 (lv_sub hl [0, 1, 2, 3, 4, 5, 6] rfl)
        · rw [if_neg c23] at h
          refine lv_aload_n hx hb dX11_order_33 rfl (lv_at hl 0 rfl) ?_
          refine lv_iload_n hx hb dX11_order_34 rfl (lv_at hl 3 rfl) ?_
          refine lv_iconst (v := 1) hx hb dX11_order_35 (by decide) ?_
          refine lv_iadd hx hb dX11_order_36 ?_
          obtain ⟨q21, h_q21, h⟩ := bb h
          refine z_VI E F hw [.int (x3 + (1 : Int32))] (k_X11_isSpring l D cy kc o0 (x3 + (1 : Int32)) q20.2 h_q21 t_o0) t_o0 cf11 mk_X11_isSpring vk_X11_isSpring ml_X11_354 ⟨by decide, by decide⟩ rfl hl.1 rfl (Nat.le_of_ble_eq_true rfl) dX11_order_37 ⟨Nat.zero_le _, Nat.zero_le _⟩ (fun H locs hw hG => ?_)
          have t_o0 := hG.t t_o0
          have hg := hg.tr hG
          refine lv_if_eq (tgt := 47) hx hb dX11_order_40 (by decide) (fun c22 => ?_) (fun c22 => ?_)
          · rw [if_pos c22] at h
            refine lv_iconst (v := 0) hx hb dX11_order_47 (by decide) ?_
            exact J48 (0 : Int32) q21.2 _ _ _ h hw hg t_o0 (lv_sub hl [0, 1, 2, 3, 4, 5, 6] rfl)
          · rw [if_neg c22] at h
            refine lv_iconst (v := 1) hx hb dX11_order_43 (by decide) ?_
            refine lv_goto (tgt := 48) hx hb dX11_order_44 (by decide) ?_
            exact J48 (1 : Int32) q21.2 _ _ _ h hw hg t_o0 (lv_sub hl [0, 1, 2, 3, 4, 5, 6] rfl)
def f_X11_draw (o0 : Nat) (x1 : Int32) (S : PS) : Option (Int32 × PS) :=
  if (Int32.toInt64 x1) = 0 then none else some ((Int64.toInt32 (((sJ (pJ S o0 38 ((((sJ S o0 38) * (1103515245 : Int64)) + (12345 : Int64)) - (((sJ S o0 38) * (1103515245 : Int64)) + (12345 : Int64)) / (2147483648 : Int64) * (2147483648 : Int64))) o0 38) / (65536 : Int64)) - ((sJ (pJ S o0 38 ((((sJ S o0 38) * (1103515245 : Int64)) + (12345 : Int64)) - (((sJ S o0 38) * (1103515245 : Int64)) + (12345 : Int64)) / (2147483648 : Int64) * (2147483648 : Int64))) o0 38) / (65536 : Int64)) / (Int32.toInt64 x1) * (Int32.toInt64 x1))), pJ S o0 38 ((((sJ S o0 38) * (1103515245 : Int64)) + (12345 : Int64)) - (((sJ S o0 38) * (1103515245 : Int64)) + (12345 : Int64)) / (2147483648 : Int64) * (2147483648 : Int64)))
set_option maxHeartbeats 4000000 in
set_option maxRecDepth 100000 in
theorem k_X11_draw (l : Launch) (D : va_G) (cy : Nat → ClassId) (kc : Nat → Nat) (o0 : Nat) (x1 : Int32) (S : PS) {qq : Int32 × PS} (h : f_X11_draw o0 x1 S = some qq) (t_o0 : tD S o0 11) : KI l D cy kc yX11_draw cX11_draw 2 .int (rmK 1 13 0 0) [.ref o0, .int x1] S qq.1 qq.2 := by
  refine K_body (Qc := QI D cy S qq.2 qq.1) (by decide) (Nat.le_of_ble_eq_true rfl) ?_
  intro p e s m below meth c A ls args E hr hlk hnm hA F hw hl
  have hx := E.1
  have hb := E.2.1
  have hl : lv_has ls 2 [(0, .ref o0), (1, .int x1)] := hl
  have hg : Gr S S := Gr.rf
  replace h : (f_X11_draw o0 x1 S).bind some = some qq := by rw [h]; rfl
  rw [f_X11_draw] at h
  refine lv_aload_n hx hb dX11_draw_0 rfl (lv_at hl 0 rfl) ?_
  refine lv_aload_n hx hb dX11_draw_1 rfl (lv_at hl 0 rfl) ?_
  refine g_f E F hw t_o0 cf11 fk_X11_495 dX11_draw_2 rfl ?_
  refine lv_ldc2 hx hb E.2.2.2.1 (E.2.2.2.2 _ kl_X11_498) dX11_draw_5 ?_
  refine lv_lmul hx hb dX11_draw_8 ?_
  refine lv_ldc2 hx hb E.2.2.2.1 (E.2.2.2.2 _ kl_X11_500) dX11_draw_9 ?_
  refine lv_ladd hx hb dX11_draw_12 ?_
  refine lv_ldc2 hx hb E.2.2.2.1 (E.2.2.2.2 _ kl_X11_502) dX11_draw_13 ?_
  refine lv_lrem hx hb dX11_draw_16 (by decide) ?_
  refine p_J E F hw t_o0 cf11 fk_X11_495 rfl rfl rfl dX11_draw_17 rfl (fun H locs hw => ?_)
  refine lv_aload_n hx hb dX11_draw_20 rfl (lv_at hl 0 rfl) ?_
  refine g_f E F hw t_o0 cf11 fk_X11_495 dX11_draw_21 rfl ?_
  refine lv_ldc2 hx hb E.2.2.2.1 (E.2.2.2.2 _ kl_X11_504) dX11_draw_24 ?_
  refine lv_ldiv hx hb dX11_draw_27 (by decide) ?_
  refine lv_iload_n hx hb dX11_draw_28 rfl (lv_at hl 1 rfl) ?_
  refine lv_i2l hx hb dX11_draw_29 rfl ?_
  obtain ⟨c1, h⟩ := bz h
  refine lv_lrem hx hb dX11_draw_30 c1 ?_
  refine lv_l2i hx hb dX11_draw_31 rfl ?_
  obtain rfl := Option.some.inj h
  exact r_I E hr hlk F hA hw hg dX11_draw_32
def f_X11_comes_b38 (o0 : Nat) (x3 : Int32) (x4 : Int32) (S1 : PS) : Option ((Int32 × Int32 × PS) ⊕ ((Int32 × PS) ⊕ (PS))) :=
  (f_X11_sorts o0 S1).bind fun q4 => (if q4.1 ≤ x4 then some (.inr (.inr (q4.2))) else (rk q4.2 (sR q4.2 o0 10) 13).bind fun b5 => if ib ((18 : Int32) + x4) (sN q4.2 b5) = true then (if 0 ≤ (x3 - (sI q4.2 b5 (Int32.toNatClampNeg ((18 : Int32) + x4)))) then some (.inl ((x3 - (sI q4.2 b5 (Int32.toNatClampNeg ((18 : Int32) + x4)))), x4 + 1, q4.2)) else some (.inr (.inl (x4, q4.2)))) else none)
def f_X11_comes_73  (S3 : PS) : Option (Int32 × PS) :=
  some ((-1 : Int32), S3)
def f_X11_comes (o0 : Nat) (x1 : Int32) (S : PS) : Option (Int32 × PS) :=
  (rk S (sR S o0 10) 13).bind fun b1 => if ib ((29 : Int32) + x1) (sN S b1) = true then (if (sI S b1 (Int32.toNatClampNeg ((29 : Int32) + x1))) ≤ 0 then (f_X11_draw o0 (6 : Int32) S).bind fun q3 => (loopN (fun a => f_X11_comes_b38 o0 a.1 a.2.1 a.2.2) fu (q3.1, (0 : Int32), q3.2)).bind (Sum.elim (fun r => some r) (fun a => f_X11_comes_73  a)) else (if 0 ≤ ((sI S b1 (Int32.toNatClampNeg ((29 : Int32) + x1))) - (2 : Int32)) then some (((sI S b1 (Int32.toNatClampNeg ((29 : Int32) + x1))) - (2 : Int32)), S) else some ((-1 : Int32), S))) else none
set_option maxHeartbeats 4000000 in
set_option maxRecDepth 100000 in
theorem k_X11_comes (l : Launch) (D : va_G) (cy : Nat → ClassId) (kc : Nat → Nat) (o0 : Nat) (x1 : Int32) (S : PS) {qq : Int32 × PS} (h : f_X11_comes o0 x1 S = some qq) (t_o0 : tD S o0 11) : KI l D cy kc yX11_comes cX11_comes 5 .int (rmK 2 50 0 0) [.ref o0, .int x1] S qq.1 qq.2 := by
  refine K_body (Qc := QI D cy S qq.2 qq.1) (by decide) (Nat.le_of_ble_eq_true rfl) ?_
  intro p e s m below meth c A ls args E hr hlk hnm hA F hw hl
  have hx := E.1
  have hb := E.2.1
  have hl : lv_has ls 5 [(0, .ref o0), (1, .int x1)] := hl
  have hg : Gr S S := Gr.rf
  replace h : (f_X11_comes o0 x1 S).bind some = some qq := by rw [h]; rfl
  have L38 : ∀ (o0 : Nat) (n : Nat) (x3 : Int32) (x4 : Int32) (S1 : PS) (o : (Int32 × PS) ⊕ (PS)), loopN (fun a => f_X11_comes_b38 o0 a.1 a.2.1 a.2.2) n (x3, x4, S1) = some o → ∀ (H : Heap) (locs : List Loc) (ls : Array Slot), Wd D cy A s H locs S1 → Gr S S1 → tD S1 o0 11 → lv_has ls 5 [(0, .ref o0), (3, .int x3), (4, .int x4)] → (∀ (S2 : PS), o = .inr (S2) → ∀ (H : Heap) (locs : List Loc) (ls : Array Slot), Wd D cy A s H locs S2 → Gr S1 S2 → lv_has ls 5 [] → W p l e (rmK 2 50 0 0) s m args below meth c H locs 0 0 (MQ below (QI D cy S qq.2 qq.1 s.heap.size) args s 0 0 A) (F0 m 73 ls [])) → (∀ q9, o = .inl q9 → q9 = qq) → W p l e (rmK 2 50 0 0) s m args below meth c H locs 0 0 (MQ below (QI D cy S qq.2 qq.1 s.heap.size) args s 0 0 A) (F0 m 38 ls []) := by
    intro o0 n
    induction n with
    | zero => intro x3 x4 S1 o h; exact absurd h (by simp [loopN])
    | succ n ih =>
      intro x3 x4 S1 o h H locs ls hw hG0 t_o0 hl hx2 hq2
      have hg : Gr S1 S1 := Gr.rf
      replace h : (f_X11_comes_b38 o0 x3 x4 S1).bind (Sum.elim (loopN (fun a => f_X11_comes_b38 o0 a.1 a.2.1 a.2.2) n) some) = some o := h
      rw [f_X11_comes_b38] at h
      refine lv_iload hx hb dX11_comes_38 (lv_at hl 2 rfl) ?_
      refine lv_aload_n hx hb dX11_comes_40 rfl (lv_at hl 0 rfl) ?_
      obtain ⟨q4, h_q4, h⟩ := bb h
      refine z_VI E F hw [] (k_X11_sorts l D cy kc o0 S1 h_q4 t_o0) t_o0 cf11 mk_X11_sorts vk_X11_sorts ml_X11_323 ⟨by decide, by decide⟩ rfl hl.1 rfl (Nat.le_of_ble_eq_true rfl) dX11_comes_41 ⟨Nat.zero_le _, Nat.zero_le _⟩ (fun H locs hw hG => ?_)
      have t_o0 := hG.t t_o0
      have hg := hg.tr hG
      refine lv_icmp_ge (tgt := 73) hx hb dX11_comes_44 (by decide) (fun c8 => ?_) (fun c8 => ?_)
      · rw [if_pos c8] at h
        obtain rfl := Option.some.inj h
        exact hx2 q4.2 rfl _ _ _ hw hg (lv_sub hl [] rfl)
      · rw [if_neg c8] at h
        refine lv_iload_n hx hb dX11_comes_47 rfl (lv_at hl 1 rfl) ?_
        refine lv_aload_n hx hb dX11_comes_48 rfl (lv_at hl 0 rfl) ?_
        obtain ⟨b5, r_b5, h⟩ := bb h
        obtain ⟨r_b5, t_b5⟩ := rk_some r_b5
        refine g_R E F hw t_o0 cf11 fk_X11_73 dX11_comes_49 rfl r_b5 ?_
        refine lv_bipush (v := 18) hx hb dX11_comes_52 (by decide) ?_
        refine lv_iload hx hb dX11_comes_54 (lv_at hl 2 rfl) ?_
        refine lv_iadd hx hb dX11_comes_56 ?_
        obtain ⟨c6, h⟩ := bg h
        refine a_i E F hw t_b5 c6 dX11_comes_57 ?_
        refine lv_isub hx hb dX11_comes_58 ?_
        refine lv_istore_n (lv' := [(3, .int (x3 - (sI q4.2 b5 (Int32.toNatClampNeg ((18 : Int32) + x4))))), (0, .ref o0), (4, .int x4)]) hx hb dX11_comes_59 rfl hl (by decide) rfl (fun ls hl => ?_)
        refine lv_iload_n hx hb dX11_comes_60 rfl (lv_at hl 0 rfl) ?_
        refine lv_if_ge (tgt := 67) hx hb dX11_comes_61 (by decide) (fun c7 => ?_) (fun c7 => ?_)
        · rw [if_pos c7] at h
          refine lv_iinc (v := x4 + 1) (lv' := [(4, .int (x4 + 1)), (3, .int (x3 - (sI q4.2 b5 (Int32.toNatClampNeg ((18 : Int32) + x4))))), (0, .ref o0)]) hx hb dX11_comes_67 hl (k := 2) rfl rfl (by decide) rfl (fun ls hl => ?_)
          refine lv_goto (tgt := 38) hx hb dX11_comes_70 (by decide) ?_
          exact ih (x3 - (sI q4.2 b5 (Int32.toNatClampNeg ((18 : Int32) + x4)))) (x4 + 1) q4.2 _ h _ _ _ hw (hG0.tr hg) t_o0 (lv_sub hl [2, 1, 0] rfl) (fun  S2 he H locs ls hw hG hl => hx2  S2 he H locs ls hw (hg.tr hG) hl) hq2
        · rw [if_neg c7] at h
          refine lv_iload hx hb dX11_comes_64 (lv_at hl 2 rfl) ?_
          obtain rfl := Option.some.inj h
          obtain rfl := hq2 _ rfl
          exact r_I E hr hlk F hA hw (hG0.tr hg) dX11_comes_66
  have J73 : ∀  (S3 : PS) (H : Heap) (locs : List Loc) (ls : Array Slot), (f_X11_comes_73  S3).bind some = some qq → Wd D cy A s H locs S3 → Gr S S3 → lv_has ls 5 [] → W p l e (rmK 2 50 0 0) s m args below meth c H locs 0 0 (MQ below (QI D cy S qq.2 qq.1 s.heap.size) args s 0 0 A) (F0 m 73 ls []) := by
    intro  S3 H locs ls h hw hg  hl
    rw [f_X11_comes_73] at h
    refine lv_iconst (v := (-1)) hx hb dX11_comes_73 (by decide) ?_
    obtain rfl := Option.some.inj h
    exact r_I E hr hlk F hA hw hg dX11_comes_74
  rw [f_X11_comes] at h
  refine lv_aload_n hx hb dX11_comes_0 rfl (lv_at hl 0 rfl) ?_
  obtain ⟨b1, r_b1, h⟩ := bb h
  obtain ⟨r_b1, t_b1⟩ := rk_some r_b1
  refine g_R E F hw t_o0 cf11 fk_X11_73 dX11_comes_1 rfl r_b1 ?_
  refine lv_bipush (v := 29) hx hb dX11_comes_4 (by decide) ?_
  refine lv_iload_n hx hb dX11_comes_6 rfl (lv_at hl 1 rfl) ?_
  refine lv_iadd hx hb dX11_comes_7 ?_
  obtain ⟨c2, h⟩ := bg h
  refine a_i E F hw t_b1 c2 dX11_comes_8 ?_
  refine lv_istore_n (lv' := [(2, .int (sI S b1 (Int32.toNatClampNeg ((29 : Int32) + x1)))), (0, .ref o0), (1, .int x1)]) hx hb dX11_comes_9 rfl hl (by decide) rfl (fun ls hl => ?_)
  refine lv_iload_n hx hb dX11_comes_10 rfl (lv_at hl 0 rfl) ?_
  refine lv_if_le (tgt := 28) hx hb dX11_comes_11 (by decide) (fun c11 => ?_) (fun c11 => ?_)
  · rw [if_pos c11] at h
    refine lv_aload_n hx hb dX11_comes_28 rfl (lv_at hl 1 rfl) ?_
    refine lv_bipush (v := 6) hx hb dX11_comes_29 (by decide) ?_
    obtain ⟨q3, h_q3, h⟩ := bb h
    refine z_VI E F hw [.int (6 : Int32)] (k_X11_draw l D cy kc o0 (6 : Int32) S h_q3 t_o0) t_o0 cf11 mk_X11_draw vk_X11_draw ml_X11_506 ⟨by decide, by decide⟩ rfl hl.1 rfl (Nat.le_of_ble_eq_true rfl) dX11_comes_31 ⟨Nat.zero_le _, Nat.zero_le _⟩ (fun H locs hw hG => ?_)
    have t_o0 := hG.t t_o0
    have hg := hg.tr hG
    refine lv_istore_n (lv' := [(3, .int q3.1), (2, .int (sI S b1 (Int32.toNatClampNeg ((29 : Int32) + x1)))), (0, .ref o0), (1, .int x1)]) hx hb dX11_comes_34 rfl hl (by decide) rfl (fun ls hl => ?_)
    refine lv_iconst (v := 0) hx hb dX11_comes_35 (by decide) ?_
    refine lv_istore (lv' := [(4, .int (0 : Int32)), (3, .int q3.1), (2, .int (sI S b1 (Int32.toNatClampNeg ((29 : Int32) + x1)))), (0, .ref o0), (1, .int x1)]) hx hb dX11_comes_36 hl (by decide) rfl (fun ls hl => ?_)
    obtain ⟨y9, hy9, h⟩ := bb h
    refine L38 o0 fu q3.1 (0 : Int32) q3.2 y9 hy9 _ _ _ hw (hg) t_o0 (lv_sub hl [3, 1, 0] rfl) (fun  S2 he H locs ls hw hG hl => ?_) (fun r he => ?_)
    · subst he
      have hg := hg.tr hG
      exact J73  S2 _ _ _ h hw hg  (lv_sub hl [] rfl)
    · subst he
      exact Option.some.inj h
  · rw [if_neg c11] at h
    refine lv_iload_n hx hb dX11_comes_14 rfl (lv_at hl 0 rfl) ?_
    refine lv_iconst (v := 2) hx hb dX11_comes_15 (by decide) ?_
    refine lv_isub hx hb dX11_comes_16 ?_
    refine lv_if_ge (tgt := 24) hx hb dX11_comes_17 (by decide) (fun c10 => ?_) (fun c10 => ?_)
    · rw [if_pos c10] at h
      refine lv_iload_n hx hb dX11_comes_24 rfl (lv_at hl 0 rfl) ?_
      refine lv_iconst (v := 2) hx hb dX11_comes_25 (by decide) ?_
      refine lv_isub hx hb dX11_comes_26 ?_
      obtain rfl := Option.some.inj h
      exact r_I E hr hlk F hA hw hg dX11_comes_27
    · rw [if_neg c10] at h
      refine lv_iconst (v := (-1)) hx hb dX11_comes_20 (by decide) ?_
      refine lv_goto (tgt := 27) hx hb dX11_comes_21 (by decide) ?_
      obtain rfl := Option.some.inj h
      exact r_I E hr hlk F hA hw hg dX11_comes_27
def f_X11_askedBy_86b54 (o0 : Nat) (x2 : Int32) (z4 : Int32) (z5 : Int32) (S3 : PS) : Option ((Int32 × Int32 × PS) ⊕ ((Int32 × PS) ⊕ (Int32 × PS))) :=
  some (.inl (z4, z5 + 1, S3))
def f_X11_askedBy_b54 (o0 : Nat) (x2 : Int32) (x4 : Int32) (x5 : Int32) (S1 : PS) : Option ((Int32 × Int32 × PS) ⊕ ((Int32 × PS) ⊕ (Int32 × PS))) :=
  (if x2 < x5 then some (.inr (.inr (x4, S1))) else (f_X11_life o0 S1).bind fun q6 => (if q6.1 ≤ (x2 - x5) then f_X11_askedBy_86b54 o0 x2 x4 x5 q6.2 else (rk q6.2 (sR q6.2 o0 34) 13).bind fun b7 => if ib x5 (sN q6.2 b7) = true then (if (sI q6.2 b7 (Int32.toNatClampNeg x5)) < 0 then f_X11_askedBy_86b54 o0 x2 x4 x5 q6.2 else some (.inl (x5, x5 + 1, q6.2))) else none))
def f_X11_askedBy_96 (z4 : Int32) (S3 : PS) : Option (Int32 × PS) :=
  some (z4, S3)
def f_X11_askedBy_42 (o0 : Nat) (x1 : Int32) (x2 : Int32) (y0 : Int32) (S3 : PS) : Option (Int32 × PS) :=
  (if x1 = (4 : Int32) then (loopN (fun a => f_X11_askedBy_b54 o0 x2 a.1 a.2.1 a.2.2) fu ((-1 : Int32), (0 : Int32), S3)).bind (Sum.elim (fun r => some r) (fun a => f_X11_askedBy_96 a.1 a.2)) else (if (4 : Int32) < x1 then some ((-1 : Int32), S3) else (if x2 < y0 then some ((-1 : Int32), S3) else (rk S3 (sR S3 o0 34) 13).bind fun b1 => if ib (x2 - y0) (sN S3 b1) = true then (if 0 ≤ (sI S3 b1 (Int32.toNatClampNeg (x2 - y0))) then some ((x2 - y0), S3) else some ((-1 : Int32), S3)) else none)))
def f_X11_askedBy_24 (o0 : Nat) (x1 : Int32) (x2 : Int32) (y0 : Int32) (S3 : PS) : Option (Int32 × PS) :=
  (if x1 = (3 : Int32) then (f_X11_life o0 S3).bind fun q14 => (f_X11_draw o0 q14.1 q14.2).bind fun q15 => f_X11_askedBy_42 o0 x1 x2 q15.1 q15.2 else f_X11_askedBy_42 o0 x1 x2 y0 S3)
def f_X11_askedBy (o0 : Nat) (x1 : Int32) (x2 : Int32) (S : PS) : Option (Int32 × PS) :=
  (if (2 : Int32) ≤ x1 then (if x1 = (2 : Int32) then (f_X11_life o0 S).bind fun q17 => f_X11_askedBy_24 o0 x1 x2 (q17.1 - (1 : Int32)) q17.2 else f_X11_askedBy_24 o0 x1 x2 (-1 : Int32) S) else f_X11_askedBy_24 o0 x1 x2 (0 : Int32) S)
set_option maxHeartbeats 4000000 in
set_option maxRecDepth 100000 in
theorem k_X11_askedBy (l : Launch) (D : va_G) (cy : Nat → ClassId) (kc : Nat → Nat) (o0 : Nat) (x1 : Int32) (x2 : Int32) (S : PS) {qq : Int32 × PS} (h : f_X11_askedBy o0 x1 x2 S = some qq) (t_o0 : tD S o0 11) : KI l D cy kc yX11_askedBy cX11_askedBy 6 .int (rmK 2 50 0 0) [.ref o0, .int x1, .int x2] S qq.1 qq.2 := by
  refine K_body (Qc := QI D cy S qq.2 qq.1) (by decide) (Nat.le_of_ble_eq_true rfl) ?_
  intro p e s m below meth c A ls args E hr hlk hnm hA F hw hl
  have hx := E.1
  have hb := E.2.1
  have hl : lv_has ls 6 [(0, .ref o0), (1, .int x1), (2, .int x2)] := hl
  have hg : Gr S S := Gr.rf
  replace h : (f_X11_askedBy o0 x1 x2 S).bind some = some qq := by rw [h]; rfl
  have L54 : ∀ (o0 : Nat) (x2 : Int32) (n : Nat) (x4 : Int32) (x5 : Int32) (S1 : PS) (o : (Int32 × PS) ⊕ (Int32 × PS)), loopN (fun a => f_X11_askedBy_b54 o0 x2 a.1 a.2.1 a.2.2) n (x4, x5, S1) = some o → ∀ (H : Heap) (locs : List Loc) (ls : Array Slot), Wd D cy A s H locs S1 → Gr S S1 → tD S1 o0 11 → lv_has ls 6 [(0, .ref o0), (2, .int x2), (4, .int x4), (5, .int x5)] → (∀ (e0 : Int32) (S2 : PS), o = .inr (e0, S2) → ∀ (H : Heap) (locs : List Loc) (ls : Array Slot), Wd D cy A s H locs S2 → Gr S1 S2 → lv_has ls 6 [(4, .int e0)] → W p l e (rmK 2 50 0 0) s m args below meth c H locs 0 0 (MQ below (QI D cy S qq.2 qq.1 s.heap.size) args s 0 0 A) (F0 m 96 ls [])) → (∀ q9, o = .inl q9 → q9 = qq) → W p l e (rmK 2 50 0 0) s m args below meth c H locs 0 0 (MQ below (QI D cy S qq.2 qq.1 s.heap.size) args s 0 0 A) (F0 m 54 ls []) := by
    intro o0 x2 n
    induction n with
    | zero => intro x4 x5 S1 o h; exact absurd h (by simp [loopN])
    | succ n ih =>
      intro x4 x5 S1 o h H locs ls hw hG0 t_o0 hl hx2 hq2
      have hg : Gr S1 S1 := Gr.rf
      replace h : (f_X11_askedBy_b54 o0 x2 x4 x5 S1).bind (Sum.elim (loopN (fun a => f_X11_askedBy_b54 o0 x2 a.1 a.2.1 a.2.2) n) some) = some o := h
      have J86 : ∀ (z4 : Int32) (z5 : Int32) (S3 : PS) (H : Heap) (locs : List Loc) (ls : Array Slot), (f_X11_askedBy_86b54 o0 x2 z4 z5 S3).bind (Sum.elim (loopN (fun a => f_X11_askedBy_b54 o0 x2 a.1 a.2.1 a.2.2) n) some) = some o → Wd D cy A s H locs S3 → Gr S1 S3 → tD S3 o0 11 → lv_has ls 6 [(0, .ref o0), (2, .int x2), (4, .int z4), (5, .int z5)] → W p l e (rmK 2 50 0 0) s m args below meth c H locs 0 0 (MQ below (QI D cy S qq.2 qq.1 s.heap.size) args s 0 0 A) (F0 m 86 ls []) := by
        intro z4 z5 S3 H locs ls h hw hg t_o0 hl
        rw [f_X11_askedBy_86b54] at h
        refine lv_iload hx hb dX11_askedBy_86 (lv_at hl 2 rfl) ?_
        refine lv_istore (lv' := [(4, .int z4), (0, .ref o0), (2, .int x2), (5, .int z5)]) hx hb dX11_askedBy_88 hl (by decide) rfl (fun ls hl => ?_)
        refine lv_iinc (v := z5 + 1) (lv' := [(5, .int (z5 + 1)), (4, .int z4), (0, .ref o0), (2, .int x2)]) hx hb dX11_askedBy_90 hl (k := 3) rfl rfl (by decide) rfl (fun ls hl => ?_)
        refine lv_goto (tgt := 54) hx hb dX11_askedBy_93 (by decide) ?_
        exact ih z4 (z5 + 1) S3 _ h _ _ _ hw (hG0.tr hg) t_o0 (lv_sub hl [2, 3, 1, 0] rfl) (fun e0 S2 he H locs ls hw hG hl => hx2 e0 S2 he H locs ls hw (hg.tr hG) hl) hq2
      rw [f_X11_askedBy_b54] at h
      refine lv_iload hx hb dX11_askedBy_54 (lv_at hl 3 rfl) ?_
      refine lv_iload_n hx hb dX11_askedBy_56 rfl (lv_at hl 1 rfl) ?_
      refine lv_icmp_gt (tgt := 96) hx hb dX11_askedBy_57 (by decide) (fun c11 => ?_) (fun c11 => ?_)
      · rw [if_pos c11] at h
        obtain rfl := Option.some.inj h
        exact hx2 x4 S1 rfl _ _ _ hw hg (lv_sub hl [2] rfl)
      · rw [if_neg c11] at h
        refine lv_iload_n hx hb dX11_askedBy_60 rfl (lv_at hl 1 rfl) ?_
        refine lv_iload hx hb dX11_askedBy_61 (lv_at hl 3 rfl) ?_
        refine lv_isub hx hb dX11_askedBy_63 ?_
        refine lv_aload_n hx hb dX11_askedBy_64 rfl (lv_at hl 0 rfl) ?_
        obtain ⟨q6, h_q6, h⟩ := bb h
        refine z_VI E F hw [] (k_X11_life l D cy kc o0 S1 h_q6 t_o0) t_o0 cf11 mk_X11_life vk_X11_life ml_X11_365 ⟨by decide, by decide⟩ rfl hl.1 rfl (Nat.le_of_ble_eq_true rfl) dX11_askedBy_65 ⟨Nat.zero_le _, Nat.zero_le _⟩ (fun H locs hw hG => ?_)
        have t_o0 := hG.t t_o0
        have hg := hg.tr hG
        refine lv_icmp_ge (tgt := 86) hx hb dX11_askedBy_68 (by decide) (fun c10 => ?_) (fun c10 => ?_)
        · rw [if_pos c10] at h
          exact J86 x4 x5 q6.2 _ _ _ h hw hg t_o0 (lv_sub hl [0, 1, 2, 3] rfl)
        · rw [if_neg c10] at h
          refine lv_aload_n hx hb dX11_askedBy_71 rfl (lv_at hl 0 rfl) ?_
          obtain ⟨b7, r_b7, h⟩ := bb h
          obtain ⟨r_b7, t_b7⟩ := rk_some r_b7
          refine g_R E F hw t_o0 cf11 fk_X11_133 dX11_askedBy_72 rfl r_b7 ?_
          refine lv_iload hx hb dX11_askedBy_75 (lv_at hl 3 rfl) ?_
          obtain ⟨c8, h⟩ := bg h
          refine a_i E F hw t_b7 c8 dX11_askedBy_77 ?_
          refine lv_if_lt (tgt := 86) hx hb dX11_askedBy_78 (by decide) (fun c9 => ?_) (fun c9 => ?_)
          · rw [if_pos c9] at h
            exact J86 x4 x5 q6.2 _ _ _ h hw hg t_o0 (lv_sub hl [0, 1, 2, 3] rfl)
          · rw [if_neg c9] at h
            refine lv_iload hx hb dX11_askedBy_81 (lv_at hl 3 rfl) ?_
            refine lv_goto (tgt := 88) hx hb dX11_askedBy_83 (by decide) ?_
            refine lv_istore (lv' := [(4, .int x5), (0, .ref o0), (2, .int x2), (5, .int x5)]) hx hb dX11_askedBy_88 hl (by decide) rfl (fun ls hl => ?_)
            refine lv_iinc (v := x5 + 1) (lv' := [(5, .int (x5 + 1)), (4, .int x5), (0, .ref o0), (2, .int x2)]) hx hb dX11_askedBy_90 hl (k := 3) rfl rfl (by decide) rfl (fun ls hl => ?_)
            refine lv_goto (tgt := 54) hx hb dX11_askedBy_93 (by decide) ?_
            exact ih x5 (x5 + 1) q6.2 _ h _ _ _ hw (hG0.tr hg) t_o0 (lv_sub hl [2, 3, 1, 0] rfl) (fun e0 S2 he H locs ls hw hG hl => hx2 e0 S2 he H locs ls hw (hg.tr hG) hl) hq2
  have J96 : ∀ (z4 : Int32) (S3 : PS) (H : Heap) (locs : List Loc) (ls : Array Slot), (f_X11_askedBy_96 z4 S3).bind some = some qq → Wd D cy A s H locs S3 → Gr S S3 → lv_has ls 6 [(4, .int z4)] → W p l e (rmK 2 50 0 0) s m args below meth c H locs 0 0 (MQ below (QI D cy S qq.2 qq.1 s.heap.size) args s 0 0 A) (F0 m 96 ls []) := by
    intro z4 S3 H locs ls h hw hg  hl
    rw [f_X11_askedBy_96] at h
    refine lv_iload hx hb dX11_askedBy_96 (lv_at hl 0 rfl) ?_
    obtain rfl := Option.some.inj h
    exact r_I E hr hlk F hA hw hg dX11_askedBy_98
  have J42 : ∀ (y0 : Int32) (S3 : PS) (H : Heap) (locs : List Loc) (ls : Array Slot), (f_X11_askedBy_42 o0 x1 x2 y0 S3).bind some = some qq → Wd D cy A s H locs S3 → Gr S S3 → tD S3 o0 11 → lv_has ls 6 [(0, .ref o0), (1, .int x1), (2, .int x2)] → W p l e (rmK 2 50 0 0) s m args below meth c H locs 0 0 (MQ below (QI D cy S qq.2 qq.1 s.heap.size) args s 0 0 A) (F0 m 42 ls [.int y0]) := by
    intro y0 S3 H locs ls h hw hg t_o0 hl
    rw [f_X11_askedBy_42] at h
    refine lv_istore_n (lv' := [(3, .int y0), (0, .ref o0), (1, .int x1), (2, .int x2)]) hx hb dX11_askedBy_42 rfl hl (by decide) rfl (fun ls hl => ?_)
    refine lv_iload_n hx hb dX11_askedBy_43 rfl (lv_at hl 2 rfl) ?_
    refine lv_iconst (v := 4) hx hb dX11_askedBy_44 (by decide) ?_
    refine lv_icmp_ne (tgt := 99) hx hb dX11_askedBy_45 (by decide) (fun c13 => ?_) (fun c13 => ?_)
    · rw [if_neg c13] at h
      refine lv_iload_n hx hb dX11_askedBy_99 rfl (lv_at hl 2 rfl) ?_
      refine lv_iconst (v := 4) hx hb dX11_askedBy_100 (by decide) ?_
      refine lv_icmp_gt (tgt := 120) hx hb dX11_askedBy_101 (by decide) (fun c5 => ?_) (fun c5 => ?_)
      · rw [if_pos c5] at h
        refine lv_iconst (v := (-1)) hx hb dX11_askedBy_120 (by decide) ?_
        refine lv_goto (tgt := 127) hx hb dX11_askedBy_121 (by decide) ?_
        obtain rfl := Option.some.inj h
        exact r_I E hr hlk F hA hw hg dX11_askedBy_127
      · rw [if_neg c5] at h
        refine lv_iload_n hx hb dX11_askedBy_104 rfl (lv_at hl 0 rfl) ?_
        refine lv_iload_n hx hb dX11_askedBy_105 rfl (lv_at hl 3 rfl) ?_
        refine lv_icmp_gt (tgt := 120) hx hb dX11_askedBy_106 (by decide) (fun c4 => ?_) (fun c4 => ?_)
        · rw [if_pos c4] at h
          refine lv_iconst (v := (-1)) hx hb dX11_askedBy_120 (by decide) ?_
          refine lv_goto (tgt := 127) hx hb dX11_askedBy_121 (by decide) ?_
          obtain rfl := Option.some.inj h
          exact r_I E hr hlk F hA hw hg dX11_askedBy_127
        · rw [if_neg c4] at h
          refine lv_aload_n hx hb dX11_askedBy_109 rfl (lv_at hl 1 rfl) ?_
          obtain ⟨b1, r_b1, h⟩ := bb h
          obtain ⟨r_b1, t_b1⟩ := rk_some r_b1
          refine g_R E F hw t_o0 cf11 fk_X11_133 dX11_askedBy_110 rfl r_b1 ?_
          refine lv_iload_n hx hb dX11_askedBy_113 rfl (lv_at hl 3 rfl) ?_
          refine lv_iload_n hx hb dX11_askedBy_114 rfl (lv_at hl 0 rfl) ?_
          refine lv_isub hx hb dX11_askedBy_115 ?_
          obtain ⟨c2, h⟩ := bg h
          refine a_i E F hw t_b1 c2 dX11_askedBy_116 ?_
          refine lv_if_ge (tgt := 124) hx hb dX11_askedBy_117 (by decide) (fun c3 => ?_) (fun c3 => ?_)
          · rw [if_pos c3] at h
            refine lv_iload_n hx hb dX11_askedBy_124 rfl (lv_at hl 3 rfl) ?_
            refine lv_iload_n hx hb dX11_askedBy_125 rfl (lv_at hl 0 rfl) ?_
            refine lv_isub hx hb dX11_askedBy_126 ?_
            obtain rfl := Option.some.inj h
            exact r_I E hr hlk F hA hw hg dX11_askedBy_127
          · rw [if_neg c3] at h
            refine lv_iconst (v := (-1)) hx hb dX11_askedBy_120 (by decide) ?_
            refine lv_goto (tgt := 127) hx hb dX11_askedBy_121 (by decide) ?_
            obtain rfl := Option.some.inj h
            exact r_I E hr hlk F hA hw hg dX11_askedBy_127
    · rw [if_pos c13] at h
      refine lv_iconst (v := (-1)) hx hb dX11_askedBy_48 (by decide) ?_
      refine lv_istore (lv' := [(4, .int (-1 : Int32)), (3, .int y0), (0, .ref o0), (1, .int x1), (2, .int x2)]) hx hb dX11_askedBy_49 hl (by decide) rfl (fun ls hl => ?_)
      refine lv_iconst (v := 0) hx hb dX11_askedBy_51 (by decide) ?_
      refine lv_istore (lv' := [(5, .int (0 : Int32)), (4, .int (-1 : Int32)), (3, .int y0), (0, .ref o0), (1, .int x1), (2, .int x2)]) hx hb dX11_askedBy_52 hl (by decide) rfl (fun ls hl => ?_)
      obtain ⟨y12, hy12, h⟩ := bb h
      refine L54 o0 x2 fu (-1 : Int32) (0 : Int32) S3 y12 hy12 _ _ _ hw (hg) t_o0 (lv_sub hl [3, 5, 1, 0] rfl) (fun e0 S2 he H locs ls hw hG hl => ?_) (fun r he => ?_)
      · subst he
        have hg := hg.tr hG
        exact J96 e0 S2 _ _ _ h hw hg  (lv_sub hl [0] rfl)
      · subst he
        exact Option.some.inj h
  have J24 : ∀ (y0 : Int32) (S3 : PS) (H : Heap) (locs : List Loc) (ls : Array Slot), (f_X11_askedBy_24 o0 x1 x2 y0 S3).bind some = some qq → Wd D cy A s H locs S3 → Gr S S3 → tD S3 o0 11 → lv_has ls 6 [(0, .ref o0), (1, .int x1), (2, .int x2)] → W p l e (rmK 2 50 0 0) s m args below meth c H locs 0 0 (MQ below (QI D cy S qq.2 qq.1 s.heap.size) args s 0 0 A) (F0 m 24 ls [.int y0]) := by
    intro y0 S3 H locs ls h hw hg t_o0 hl
    rw [f_X11_askedBy_24] at h
    refine lv_istore_n (lv' := [(3, .int y0), (0, .ref o0), (1, .int x1), (2, .int x2)]) hx hb dX11_askedBy_24 rfl hl (by decide) rfl (fun ls hl => ?_)
    refine lv_iload_n hx hb dX11_askedBy_25 rfl (lv_at hl 2 rfl) ?_
    refine lv_iconst (v := 3) hx hb dX11_askedBy_26 (by decide) ?_
    refine lv_icmp_ne (tgt := 41) hx hb dX11_askedBy_27 (by decide) (fun c16 => ?_) (fun c16 => ?_)
    · rw [if_neg c16] at h
      refine lv_iload_n hx hb dX11_askedBy_41 rfl (lv_at hl 0 rfl) ?_
      exact J42 y0 S3 _ _ _ h hw hg t_o0 (lv_sub hl [1, 2, 3] rfl)
    · rw [if_pos c16] at h
      refine lv_aload_n hx hb dX11_askedBy_30 rfl (lv_at hl 1 rfl) ?_
      refine lv_aload_n hx hb dX11_askedBy_31 rfl (lv_at hl 1 rfl) ?_
      obtain ⟨q14, h_q14, h⟩ := bb h
      refine z_VI E F hw [] (k_X11_life l D cy kc o0 S3 h_q14 t_o0) t_o0 cf11 mk_X11_life vk_X11_life ml_X11_365 ⟨by decide, by decide⟩ rfl hl.1 rfl (Nat.le_of_ble_eq_true rfl) dX11_askedBy_32 ⟨Nat.zero_le _, Nat.zero_le _⟩ (fun H locs hw hG => ?_)
      have t_o0 := hG.t t_o0
      have hg := hg.tr hG
      obtain ⟨q15, h_q15, h⟩ := bb h
      refine z_VI E F hw [.int q14.1] (k_X11_draw l D cy kc o0 q14.1 q14.2 h_q15 t_o0) t_o0 cf11 mk_X11_draw vk_X11_draw ml_X11_506 ⟨by decide, by decide⟩ rfl hl.1 rfl (Nat.le_of_ble_eq_true rfl) dX11_askedBy_35 ⟨Nat.zero_le _, Nat.zero_le _⟩ (fun H locs hw hG => ?_)
      have t_o0 := hG.t t_o0
      have hg := hg.tr hG
      refine lv_goto (tgt := 42) hx hb dX11_askedBy_38 (by decide) ?_
      exact J42 q15.1 q15.2 _ _ _ h hw hg t_o0 (lv_sub hl [1, 2, 3] rfl)
  rw [f_X11_askedBy] at h
  refine lv_iload_n hx hb dX11_askedBy_0 rfl (lv_at hl 1 rfl) ?_
  refine lv_iconst (v := 2) hx hb dX11_askedBy_1 (by decide) ?_
  refine lv_icmp_ge (tgt := 9) hx hb dX11_askedBy_2 (by decide) (fun c19 => ?_) (fun c19 => ?_)
  · rw [if_pos c19] at h
    refine lv_iload_n hx hb dX11_askedBy_9 rfl (lv_at hl 1 rfl) ?_
    refine lv_iconst (v := 2) hx hb dX11_askedBy_10 (by decide) ?_
    refine lv_icmp_ne (tgt := 23) hx hb dX11_askedBy_11 (by decide) (fun c18 => ?_) (fun c18 => ?_)
    · rw [if_neg c18] at h
      refine lv_iconst (v := (-1)) hx hb dX11_askedBy_23 (by decide) ?_
      exact J24 (-1 : Int32) S _ _ _ h hw hg t_o0 (lv_sub hl [0, 1, 2] rfl)
    · rw [if_pos c18] at h
      refine lv_aload_n hx hb dX11_askedBy_14 rfl (lv_at hl 0 rfl) ?_
      obtain ⟨q17, h_q17, h⟩ := bb h
      refine z_VI E F hw [] (k_X11_life l D cy kc o0 S h_q17 t_o0) t_o0 cf11 mk_X11_life vk_X11_life ml_X11_365 ⟨by decide, by decide⟩ rfl hl.1 rfl (Nat.le_of_ble_eq_true rfl) dX11_askedBy_15 ⟨Nat.zero_le _, Nat.zero_le _⟩ (fun H locs hw hG => ?_)
      have t_o0 := hG.t t_o0
      have hg := hg.tr hG
      refine lv_iconst (v := 1) hx hb dX11_askedBy_18 (by decide) ?_
      refine lv_isub hx hb dX11_askedBy_19 ?_
      refine lv_goto (tgt := 24) hx hb dX11_askedBy_20 (by decide) ?_
      exact J24 (q17.1 - (1 : Int32)) q17.2 _ _ _ h hw hg t_o0 (lv_sub hl [0, 1, 2] rfl)
  · rw [if_neg c19] at h
    refine lv_iconst (v := 0) hx hb dX11_askedBy_5 (by decide) ?_
    refine lv_goto (tgt := 24) hx hb dX11_askedBy_6 (by decide) ?_
    exact J24 (0 : Int32) S _ _ _ h hw hg t_o0 (lv_sub hl [0, 1, 2] rfl)
