def f_X11_when_b100 (o0 : Nat) (x1 : Int32) (x2 : Int32) (x3 : Int32) (x4 : Int64) (x6 : Int32) (x7 : Int64) (x9 : Int32) (S1 : PS) : Option ((Int64 × Int32 × PS) ⊕ ((Int64 × PS) ⊕ (Int64 × PS))) :=
  (if (11 : Int32) ≤ x9 then some (.inr (.inr (x7, S1))) else some (.inl (((6 : Int64) * x7), x9 + 1, S1)))
def f_X11_when_143b47 (o0 : Nat) (x1 : Int32) (x2 : Int32) (z6 : Int32) (z7 : Int64) (S3 : PS) : Option ((Int32 × Int64 × Int32 × PS) ⊕ ((Int64 × PS) ⊕ (Int32 × PS))) :=
  some (.inl (z6, z7, z6 + 1, S3))
def f_X11_when_121b47 (o0 : Nat) (x1 : Int32) (x2 : Int32) (z3 : Int32) (z4 : Int64) (z6 : Int32) (z7 : Int64) (S3 : PS) : Option ((Int32 × Int64 × Int32 × PS) ⊕ ((Int64 × PS) ⊕ (Int32 × PS))) :=
  (f_X11_sixth o0 z6 x1 S3).bind fun q8 => (if q8.1 ≤ 0 then some (.inl (z3, z4, z6 + 1, q8.2)) else (if z3 < 0 then f_X11_when_143b47 o0 x1 x2 z6 z7 q8.2 else (if (lg_cmp z7 z4) ≤ 0 then some (.inl (z3, z4, z6 + 1, q8.2)) else f_X11_when_143b47 o0 x1 x2 z6 z7 q8.2)))
def f_X11_when_84b47 (o0 : Nat) (x1 : Int32) (x2 : Int32) (z3 : Int32) (z4 : Int64) (z6 : Int32) (y0 : Int64) (S3 : PS) : Option ((Int32 × Int64 × Int32 × PS) ⊕ ((Int64 × PS) ⊕ (Int32 × PS))) :=
  (f_X11_left o0 z6 (0 : Int32) S3).bind fun q5 => (loopN (fun a => f_X11_when_b100 o0 x1 x2 z3 z4 z6 a.1 a.2.1 a.2.2) fu (y0, ((z6 + q5.1) - (1 : Int32)), q5.2)).bind (Sum.elim (fun r => some (.inr (.inl r))) (fun a => f_X11_when_121b47 o0 x1 x2 z3 z4 z6 a.1 a.2))
def f_X11_when_b47 (o0 : Nat) (x1 : Int32) (x2 : Int32) (x3 : Int32) (x4 : Int64) (x6 : Int32) (S1 : PS) : Option ((Int32 × Int64 × Int32 × PS) ⊕ ((Int64 × PS) ⊕ (Int32 × PS))) :=
  (f_X11_springs o0 S1).bind fun q3 => (if q3.1 ≤ x6 then some (.inr (.inr (x3, q3.2))) else (if (7 : Int32) ≤ x6 then some (.inr (.inr (x3, q3.2))) else (f_X11_sixth o0 x6 x1 q3.2).bind fun q4 => (if q4.1 ≤ 0 then f_X11_when_84b47 o0 x1 x2 x3 x4 x6 (0 : Int64) q4.2 else (f_X11_hopesOf o0 x1 x6 q4.2).bind fun q12 => f_X11_when_84b47 o0 x1 x2 x3 x4 x6 q12.1 q12.2)))
def f_X11_when_166 (o0 : Nat) (x1 : Int32) (x2 : Int32) (z3 : Int32) (w0 : Nat) (y1 : Int32) (S3 : PS) : Option (Int64 × PS) :=
  (if (sI (pI S3 w0 0 y1) o0 0) ≤ 0 then (f_X11_hopesOf o0 x1 z3 (pI S3 w0 0 y1)).bind fun q17 => (rk q17.2 (sR q17.2 o0 27) 14).bind fun b18 => if ib z3 (sN q17.2 b18) = true then (f_X11_partsOf o0 z3 q17.2).bind fun q20 => (f_X11_sets o0 q17.1 ((sJ q17.2 b18 (Int32.toNatClampNeg z3)) * q20.1) q20.2).bind fun q21 => (if x2 = 0 then some ((Int32.toInt64 z3), q21.2) else (f_X11_partFound o0 (x2 - (1 : Int32)) q21.2).bind fun q22 => some (q22.1, q22.2)) else none else some ((0 : Int64), pI S3 w0 0 y1))
def f_X11_when_156 (o0 : Nat) (x1 : Int32) (x2 : Int32) (z3 : Int32) (S3 : PS) : Option (Int64 × PS) :=
  (if z3 < 0 then f_X11_when_166 o0 x1 x2 z3 o0 (1 : Int32) S3 else f_X11_when_166 o0 x1 x2 z3 o0 (0 : Int32) S3)
def f_X11_when_23 (o0 : Nat) (x1 : Int32) (x2 : Int32) (w0 : Nat) (y1 : Int32) (S3 : PS) : Option (Int64 × PS) :=
  (if (sI (pI S3 w0 0 y1) o0 0) ≤ 0 then (f_X11_find o0 (pI S3 w0 0 y1)).bind fun q2 => (loopN (fun a => f_X11_when_b47 o0 x1 x2 a.1 a.2.1 a.2.2.1 a.2.2.2) fu ((-1 : Int32), (0 : Int64), (0 : Int32), q2.2)).bind (Sum.elim (fun r => some r) (fun a => f_X11_when_156 o0 x1 x2 a.1 a.2)) else some ((0 : Int64), pI S3 w0 0 y1))
def f_X11_when (o0 : Nat) (x1 : Int32) (x2 : Int32) (S : PS) : Option (Int64 × PS) :=
  (f_X11_isSort o0 x1 S).bind fun q1 => (if q1.1 = 0 then f_X11_when_23 o0 x1 x2 o0 (1 : Int32) q1.2 else (f_X11_within x2 (0 : Int32) (2 : Int32) q1.2).bind fun q27 => (if q27.1 = 0 then f_X11_when_23 o0 x1 x2 o0 (1 : Int32) q27.2 else f_X11_when_23 o0 x1 x2 o0 (0 : Int32) q27.2))
set_option maxHeartbeats 4000000 in
set_option maxRecDepth 100000 in
theorem k_X11_when (l : Launch) (D : va_G) (cy : Nat → ClassId) (kc : Nat → Nat) (o0 : Nat) (x1 : Int32) (x2 : Int32) (S : PS) {qq : Int64 × PS} (h : f_X11_when o0 x1 x2 S = some qq) (t_o0 : tD S o0 11) : KJ l D cy kc yX11_when cX11_when 10 (rmK 12 451 0 0) [.ref o0, .int x1, .int x2] S qq.1 qq.2 := by
  refine K_body (Qc := QJ D cy S qq.2 qq.1) (by decide) (Nat.le_of_ble_eq_true rfl) ?_
  intro p e s m below meth c A ls args E hr hlk hnm hA F hw hl
  have hx := E.1
  have hb := E.2.1
  have hl : lv_has ls 10 [(0, .ref o0), (1, .int x1), (2, .int x2)] := hl
  have hg : Gr S S := Gr.rf
  replace h : (f_X11_when o0 x1 x2 S).bind some = some qq := by rw [h]; rfl
  have L100 : ∀ (o0 : Nat) (x1 : Int32) (x2 : Int32) (x3 : Int32) (x4 : Int64) (x6 : Int32) (n : Nat) (x7 : Int64) (x9 : Int32) (S1 : PS) (o : (Int64 × PS) ⊕ (Int64 × PS)), loopN (fun a => f_X11_when_b100 o0 x1 x2 x3 x4 x6 a.1 a.2.1 a.2.2) n (x7, x9, S1) = some o → ∀ (H : Heap) (locs : List Loc) (ls : Array Slot), Wd D cy A s H locs S1 → Gr S S1 → tD S1 o0 11 → lv_has ls 10 [(0, .ref o0), (1, .int x1), (2, .int x2), (3, .int x3), (4, .long x4), (6, .int x6), (7, .long x7), (9, .int x9)] → (∀ (e0 : Int64) (S2 : PS), o = .inr (e0, S2) → ∀ (H : Heap) (locs : List Loc) (ls : Array Slot), Wd D cy A s H locs S2 → Gr S1 S2 → lv_has ls 10 [(0, .ref o0), (1, .int x1), (2, .int x2), (3, .int x3), (4, .long x4), (6, .int x6), (7, .long e0)] → W p l e (rmK 12 451 0 0) s m args below meth c H locs 0 0 (MQ below (QJ D cy S qq.2 qq.1 s.heap.size) args s 0 0 A) (F0 m 121 ls [])) → (∀ q9, o = .inl q9 → q9 = qq) → W p l e (rmK 12 451 0 0) s m args below meth c H locs 0 0 (MQ below (QJ D cy S qq.2 qq.1 s.heap.size) args s 0 0 A) (F0 m 100 ls []) := by
    intro o0 x1 x2 x3 x4 x6 n
    induction n with
    | zero => intro x7 x9 S1 o h; exact absurd h (by simp [loopN])
    | succ n ih =>
      intro x7 x9 S1 o h H locs ls hw hG0 t_o0 hl hx2 hq2
      have hg : Gr S1 S1 := Gr.rf
      replace h : (f_X11_when_b100 o0 x1 x2 x3 x4 x6 x7 x9 S1).bind (Sum.elim (loopN (fun a => f_X11_when_b100 o0 x1 x2 x3 x4 x6 a.1 a.2.1 a.2.2) n) some) = some o := h
      rw [f_X11_when_b100] at h
      refine lv_iload hx hb dX11_when_100 (lv_at hl 7 rfl) ?_
      refine lv_bipush (v := 11) hx hb dX11_when_102 (by decide) ?_
      refine lv_icmp_ge (tgt := 121) hx hb dX11_when_104 (by decide) (fun c6 => ?_) (fun c6 => ?_)
      · rw [if_pos c6] at h
        obtain rfl := Option.some.inj h
        exact hx2 x7 S1 rfl _ _ _ hw hg (lv_sub hl [0, 1, 2, 3, 4, 5, 6] rfl)
      · rw [if_neg c6] at h
        refine lv_ldc2 hx hb E.2.2.2.1 (E.2.2.2.2 _ kl_X11_107) dX11_when_107 ?_
        refine lv_lload hx hb dX11_when_110 (lv_at hl 6 rfl) ?_
        refine lv_lmul hx hb dX11_when_112 ?_
        refine lv_lstore (lv' := [(7, .long ((6 : Int64) * x7)), (0, .ref o0), (1, .int x1), (2, .int x2), (3, .int x3), (4, .long x4), (6, .int x6), (9, .int x9)]) hx hb dX11_when_113 hl (by decide) rfl (fun ls hl => ?_)
        refine lv_iinc (v := x9 + 1) (lv' := [(9, .int (x9 + 1)), (7, .long ((6 : Int64) * x7)), (0, .ref o0), (1, .int x1), (2, .int x2), (3, .int x3), (4, .long x4), (6, .int x6)]) hx hb dX11_when_115 hl (k := 7) rfl rfl (by decide) rfl (fun ls hl => ?_)
        refine lv_goto (tgt := 100) hx hb dX11_when_118 (by decide) ?_
        exact ih ((6 : Int64) * x7) (x9 + 1) S1 _ h _ _ _ hw (hG0.tr hg) t_o0 (lv_sub hl [2, 3, 4, 5, 6, 7, 1, 0] rfl) (fun e0 S2 he H locs ls hw hG hl => hx2 e0 S2 he H locs ls hw (hg.tr hG) hl) hq2
  have L47 : ∀ (o0 : Nat) (x1 : Int32) (x2 : Int32) (n : Nat) (x3 : Int32) (x4 : Int64) (x6 : Int32) (S1 : PS) (o : (Int64 × PS) ⊕ (Int32 × PS)), loopN (fun a => f_X11_when_b47 o0 x1 x2 a.1 a.2.1 a.2.2.1 a.2.2.2) n (x3, x4, x6, S1) = some o → ∀ (H : Heap) (locs : List Loc) (ls : Array Slot), Wd D cy A s H locs S1 → Gr S S1 → tD S1 o0 11 → lv_has ls 10 [(0, .ref o0), (1, .int x1), (2, .int x2), (3, .int x3), (4, .long x4), (6, .int x6)] → (∀ (e0 : Int32) (S2 : PS), o = .inr (e0, S2) → ∀ (H : Heap) (locs : List Loc) (ls : Array Slot), Wd D cy A s H locs S2 → Gr S1 S2 → lv_has ls 10 [(0, .ref o0), (1, .int x1), (2, .int x2), (3, .int e0)] → W p l e (rmK 12 451 0 0) s m args below meth c H locs 0 0 (MQ below (QJ D cy S qq.2 qq.1 s.heap.size) args s 0 0 A) (F0 m 156 ls [])) → (∀ q9, o = .inl q9 → q9 = qq) → W p l e (rmK 12 451 0 0) s m args below meth c H locs 0 0 (MQ below (QJ D cy S qq.2 qq.1 s.heap.size) args s 0 0 A) (F0 m 47 ls []) := by
    intro o0 x1 x2 n
    induction n with
    | zero => intro x3 x4 x6 S1 o h; exact absurd h (by simp [loopN])
    | succ n ih =>
      intro x3 x4 x6 S1 o h H locs ls hw hG0 t_o0 hl hx2 hq2
      have hg : Gr S1 S1 := Gr.rf
      replace h : (f_X11_when_b47 o0 x1 x2 x3 x4 x6 S1).bind (Sum.elim (loopN (fun a => f_X11_when_b47 o0 x1 x2 a.1 a.2.1 a.2.2.1 a.2.2.2) n) some) = some o := h
      have J143 : ∀ (z6 : Int32) (z7 : Int64) (S3 : PS) (H : Heap) (locs : List Loc) (ls : Array Slot), (f_X11_when_143b47 o0 x1 x2 z6 z7 S3).bind (Sum.elim (loopN (fun a => f_X11_when_b47 o0 x1 x2 a.1 a.2.1 a.2.2.1 a.2.2.2) n) some) = some o → Wd D cy A s H locs S3 → Gr S1 S3 → tD S3 o0 11 → lv_has ls 10 [(0, .ref o0), (1, .int x1), (2, .int x2), (6, .int z6), (7, .long z7)] → W p l e (rmK 12 451 0 0) s m args below meth c H locs 0 0 (MQ below (QJ D cy S qq.2 qq.1 s.heap.size) args s 0 0 A) (F0 m 143 ls []) := by
        intro z6 z7 S3 H locs ls h hw hg t_o0 hl
        rw [f_X11_when_143b47] at h
        refine lv_lload hx hb dX11_when_143 (lv_at hl 4 rfl) ?_
        refine lv_lstore (lv' := [(4, .long z7), (0, .ref o0), (1, .int x1), (2, .int x2), (6, .int z6), (7, .long z7)]) hx hb dX11_when_145 hl (by decide) rfl (fun ls hl => ?_)
        refine lv_iload hx hb dX11_when_147 (lv_at hl 4 rfl) ?_
        refine lv_istore_n (lv' := [(3, .int z6), (4, .long z7), (0, .ref o0), (1, .int x1), (2, .int x2), (6, .int z6), (7, .long z7)]) hx hb dX11_when_149 rfl hl (by decide) rfl (fun ls hl => ?_)
        refine lv_iinc (v := z6 + 1) (lv' := [(6, .int (z6 + 1)), (3, .int z6), (4, .long z7), (0, .ref o0), (1, .int x1), (2, .int x2), (7, .long z7)]) hx hb dX11_when_150 hl (k := 5) rfl rfl (by decide) rfl (fun ls hl => ?_)
        refine lv_goto (tgt := 47) hx hb dX11_when_153 (by decide) ?_
        exact ih z6 z7 (z6 + 1) S3 _ h _ _ _ hw (hG0.tr hg) t_o0 (lv_sub hl [3, 4, 5, 1, 2, 0] rfl) (fun e0 S2 he H locs ls hw hG hl => hx2 e0 S2 he H locs ls hw (hg.tr hG) hl) hq2
      have J121 : ∀ (z3 : Int32) (z4 : Int64) (z6 : Int32) (z7 : Int64) (S3 : PS) (H : Heap) (locs : List Loc) (ls : Array Slot), (f_X11_when_121b47 o0 x1 x2 z3 z4 z6 z7 S3).bind (Sum.elim (loopN (fun a => f_X11_when_b47 o0 x1 x2 a.1 a.2.1 a.2.2.1 a.2.2.2) n) some) = some o → Wd D cy A s H locs S3 → Gr S1 S3 → tD S3 o0 11 → lv_has ls 10 [(0, .ref o0), (1, .int x1), (2, .int x2), (3, .int z3), (4, .long z4), (6, .int z6), (7, .long z7)] → W p l e (rmK 12 451 0 0) s m args below meth c H locs 0 0 (MQ below (QJ D cy S qq.2 qq.1 s.heap.size) args s 0 0 A) (F0 m 121 ls []) := by
        intro z3 z4 z6 z7 S3 H locs ls h hw hg t_o0 hl
        rw [f_X11_when_121b47] at h
        refine lv_aload_n hx hb dX11_when_121 rfl (lv_at hl 0 rfl) ?_
        refine lv_iload hx hb dX11_when_122 (lv_at hl 5 rfl) ?_
        refine lv_iload_n hx hb dX11_when_124 rfl (lv_at hl 1 rfl) ?_
        obtain ⟨q8, h_q8, h⟩ := bb h
        refine z_VI E F hw [.int z6, .int x1] (k_X11_sixth l D cy kc o0 z6 x1 S3 h_q8 t_o0) t_o0 cf11 mk_X11_sixth vk_X11_sixth ml_X11_410 ⟨by decide, by decide⟩ rfl hl.1 rfl (Nat.le_of_ble_eq_true rfl) dX11_when_125 ⟨Nat.zero_le _, Nat.zero_le _⟩ (fun H locs hw hG => ?_)
        have t_o0 := hG.t t_o0
        have hg := hg.tr hG
        refine lv_if_le (tgt := 150) hx hb dX11_when_128 (by decide) (fun c11 => ?_) (fun c11 => ?_)
        · rw [if_pos c11] at h
          refine lv_iinc (v := z6 + 1) (lv' := [(6, .int (z6 + 1)), (0, .ref o0), (1, .int x1), (2, .int x2), (3, .int z3), (4, .long z4), (7, .long z7)]) hx hb dX11_when_150 hl (k := 5) rfl rfl (by decide) rfl (fun ls hl => ?_)
          refine lv_goto (tgt := 47) hx hb dX11_when_153 (by decide) ?_
          exact ih z3 z4 (z6 + 1) q8.2 _ h _ _ _ hw (hG0.tr hg) t_o0 (lv_sub hl [1, 2, 3, 4, 5, 0] rfl) (fun e0 S2 he H locs ls hw hG hl => hx2 e0 S2 he H locs ls hw (hg.tr hG) hl) hq2
        · rw [if_neg c11] at h
          refine lv_iload_n hx hb dX11_when_131 rfl (lv_at hl 3 rfl) ?_
          refine lv_if_lt (tgt := 143) hx hb dX11_when_132 (by decide) (fun c10 => ?_) (fun c10 => ?_)
          · rw [if_pos c10] at h
            exact J143 z6 z7 q8.2 _ _ _ h hw hg t_o0 (lv_sub hl [0, 1, 2, 5, 6] rfl)
          · rw [if_neg c10] at h
            refine lv_lload hx hb dX11_when_135 (lv_at hl 6 rfl) ?_
            refine lv_lload hx hb dX11_when_137 (lv_at hl 4 rfl) ?_
            refine W.lcmp hx hb dX11_when_139 ?_
            refine lv_if_le (tgt := 150) hx hb dX11_when_140 (by decide) (fun c9 => ?_) (fun c9 => ?_)
            · rw [if_pos c9] at h
              refine lv_iinc (v := z6 + 1) (lv' := [(6, .int (z6 + 1)), (0, .ref o0), (1, .int x1), (2, .int x2), (3, .int z3), (4, .long z4), (7, .long z7)]) hx hb dX11_when_150 hl (k := 5) rfl rfl (by decide) rfl (fun ls hl => ?_)
              refine lv_goto (tgt := 47) hx hb dX11_when_153 (by decide) ?_
              exact ih z3 z4 (z6 + 1) q8.2 _ h _ _ _ hw (hG0.tr hg) t_o0 (lv_sub hl [1, 2, 3, 4, 5, 0] rfl) (fun e0 S2 he H locs ls hw hG hl => hx2 e0 S2 he H locs ls hw (hg.tr hG) hl) hq2
            · rw [if_neg c9] at h
              exact J143 z6 z7 q8.2 _ _ _ h hw hg t_o0 (lv_sub hl [0, 1, 2, 5, 6] rfl)
      have J84 : ∀ (z3 : Int32) (z4 : Int64) (z6 : Int32) (y0 : Int64) (S3 : PS) (H : Heap) (locs : List Loc) (ls : Array Slot), (f_X11_when_84b47 o0 x1 x2 z3 z4 z6 y0 S3).bind (Sum.elim (loopN (fun a => f_X11_when_b47 o0 x1 x2 a.1 a.2.1 a.2.2.1 a.2.2.2) n) some) = some o → Wd D cy A s H locs S3 → Gr S1 S3 → tD S3 o0 11 → lv_has ls 10 [(0, .ref o0), (1, .int x1), (2, .int x2), (3, .int z3), (4, .long z4), (6, .int z6)] → W p l e (rmK 12 451 0 0) s m args below meth c H locs 0 0 (MQ below (QJ D cy S qq.2 qq.1 s.heap.size) args s 0 0 A) (F0 m 84 ls [.long y0]) := by
        intro z3 z4 z6 y0 S3 H locs ls h hw hg t_o0 hl
        rw [f_X11_when_84b47] at h
        refine lv_lstore (lv' := [(7, .long y0), (0, .ref o0), (1, .int x1), (2, .int x2), (3, .int z3), (4, .long z4), (6, .int z6)]) hx hb dX11_when_84 hl (by decide) rfl (fun ls hl => ?_)
        refine lv_iload hx hb dX11_when_86 (lv_at hl 6 rfl) ?_
        refine lv_aload_n hx hb dX11_when_88 rfl (lv_at hl 1 rfl) ?_
        refine lv_iload hx hb dX11_when_89 (lv_at hl 6 rfl) ?_
        refine lv_iconst (v := 0) hx hb dX11_when_91 (by decide) ?_
        obtain ⟨q5, h_q5, h⟩ := bb h
        refine z_VI E F hw [.int z6, .int (0 : Int32)] (k_X11_left l D cy kc o0 z6 (0 : Int32) S3 h_q5 t_o0) t_o0 cf11 mk_X11_left vk_X11_left ml_X11_374 ⟨by decide, by decide⟩ rfl hl.1 rfl (Nat.le_of_ble_eq_true rfl) dX11_when_92 ⟨Nat.zero_le _, Nat.zero_le _⟩ (fun H locs hw hG => ?_)
        have t_o0 := hG.t t_o0
        have hg := hg.tr hG
        refine lv_iadd hx hb dX11_when_95 ?_
        refine lv_iconst (v := 1) hx hb dX11_when_96 (by decide) ?_
        refine lv_isub hx hb dX11_when_97 ?_
        refine lv_istore (lv' := [(9, .int ((z6 + q5.1) - (1 : Int32))), (7, .long y0), (0, .ref o0), (1, .int x1), (2, .int x2), (3, .int z3), (4, .long z4), (6, .int z6)]) hx hb dX11_when_98 hl (by decide) rfl (fun ls hl => ?_)
        obtain ⟨y7, hy7, h⟩ := bb h
        refine L100 o0 x1 x2 z3 z4 z6 fu y0 ((z6 + q5.1) - (1 : Int32)) q5.2 y7 hy7 _ _ _ hw (hG0.tr hg) t_o0 (lv_sub hl [2, 3, 4, 5, 6, 7, 1, 0] rfl) (fun e0 S2 he H locs ls hw hG hl => ?_) (fun r he => ?_)
        · subst he
          have t_o0 := hG.t t_o0
          have hg := hg.tr hG
          exact J121 z3 z4 z6 e0 S2 _ _ _ h hw hg t_o0 (lv_sub hl [0, 1, 2, 3, 4, 5, 6] rfl)
        · subst he
          exact hq2 r (Option.some.inj h).symm
      rw [f_X11_when_b47] at h
      refine lv_iload hx hb dX11_when_47 (lv_at hl 5 rfl) ?_
      refine lv_aload_n hx hb dX11_when_49 rfl (lv_at hl 0 rfl) ?_
      obtain ⟨q3, h_q3, h⟩ := bb h
      refine z_VI E F hw [] (k_X11_springs l D cy kc o0 S1 h_q3 t_o0) t_o0 cf11 mk_X11_springs vk_X11_springs ml_X11_326 ⟨by decide, by decide⟩ rfl hl.1 rfl (Nat.le_of_ble_eq_true rfl) dX11_when_50 ⟨Nat.zero_le _, Nat.zero_le _⟩ (fun H locs hw hG => ?_)
      have t_o0 := hG.t t_o0
      have hg := hg.tr hG
      refine lv_icmp_ge (tgt := 156) hx hb dX11_when_53 (by decide) (fun c15 => ?_) (fun c15 => ?_)
      · rw [if_pos c15] at h
        obtain rfl := Option.some.inj h
        exact hx2 x3 q3.2 rfl _ _ _ hw hg (lv_sub hl [0, 1, 2, 3] rfl)
      · rw [if_neg c15] at h
        refine lv_iload hx hb dX11_when_56 (lv_at hl 5 rfl) ?_
        refine lv_bipush (v := 7) hx hb dX11_when_58 (by decide) ?_
        refine lv_icmp_ge (tgt := 156) hx hb dX11_when_60 (by decide) (fun c14 => ?_) (fun c14 => ?_)
        · rw [if_pos c14] at h
          obtain rfl := Option.some.inj h
          exact hx2 x3 q3.2 rfl _ _ _ hw hg (lv_sub hl [0, 1, 2, 3] rfl)
        · rw [if_neg c14] at h
          refine lv_aload_n hx hb dX11_when_63 rfl (lv_at hl 0 rfl) ?_
          refine lv_iload hx hb dX11_when_64 (lv_at hl 5 rfl) ?_
          refine lv_iload_n hx hb dX11_when_66 rfl (lv_at hl 1 rfl) ?_
          obtain ⟨q4, h_q4, h⟩ := bb h
          refine z_VI E F hw [.int x6, .int x1] (k_X11_sixth l D cy kc o0 x6 x1 q3.2 h_q4 t_o0) t_o0 cf11 mk_X11_sixth vk_X11_sixth ml_X11_410 ⟨by decide, by decide⟩ rfl hl.1 rfl (Nat.le_of_ble_eq_true rfl) dX11_when_67 ⟨Nat.zero_le _, Nat.zero_le _⟩ (fun H locs hw hG => ?_)
          have t_o0 := hG.t t_o0
          have hg := hg.tr hG
          refine lv_if_le (tgt := 83) hx hb dX11_when_70 (by decide) (fun c13 => ?_) (fun c13 => ?_)
          · rw [if_pos c13] at h
            refine lv_lconst (v := 0) hx hb dX11_when_83 (by decide) ?_
            exact J84 x3 x4 x6 (0 : Int64) q4.2 _ _ _ h hw hg t_o0 (lv_sub hl [0, 1, 2, 3, 4, 5] rfl)
          · rw [if_neg c13] at h
            refine lv_aload_n hx hb dX11_when_73 rfl (lv_at hl 0 rfl) ?_
            refine lv_iload_n hx hb dX11_when_74 rfl (lv_at hl 1 rfl) ?_
            refine lv_iload hx hb dX11_when_75 (lv_at hl 5 rfl) ?_
            obtain ⟨q12, h_q12, h⟩ := bb h
            refine z_VJ E F hw [.int x1, .int x6] (k_X11_hopesOf l D cy kc o0 x1 x6 q4.2 h_q12 t_o0) t_o0 cf11 mk_X11_hopesOf vk_X11_hopesOf ml_X11_487 ⟨by decide, by decide⟩ rfl hl.1 rfl (Nat.le_of_ble_eq_true rfl) dX11_when_77 ⟨Nat.zero_le _, Nat.zero_le _⟩ (fun H locs hw hG => ?_)
            have t_o0 := hG.t t_o0
            have hg := hg.tr hG
            refine lv_goto (tgt := 84) hx hb dX11_when_80 (by decide) ?_
            exact J84 x3 x4 x6 q12.1 q12.2 _ _ _ h hw hg t_o0 (lv_sub hl [0, 1, 2, 3, 4, 5] rfl)
  have J166 : ∀ (z3 : Int32) (w0 : Nat) (y1 : Int32) (S3 : PS) (H : Heap) (locs : List Loc) (ls : Array Slot), (f_X11_when_166 o0 x1 x2 z3 w0 y1 S3).bind some = some qq → Wd D cy A s H locs S3 → Gr S S3 → tD S3 o0 11 → tD S3 w0 11 → lv_has ls 10 [(0, .ref o0), (1, .int x1), (2, .int x2), (3, .int z3)] → W p l e (rmK 12 451 0 0) s m args below meth c H locs 0 0 (MQ below (QJ D cy S qq.2 qq.1 s.heap.size) args s 0 0 A) (F0 m 166 ls [.int y1, .ref w0]) := by
    intro z3 w0 y1 S3 H locs ls h hw hg t_o0 t_w0 hl
    rw [f_X11_when_166] at h
    refine p_I E F hw t_w0 cf11 fk_X11_1 rfl rfl rfl dX11_when_166 rfl (fun H locs hw => ?_)
    refine lv_aload_n hx hb dX11_when_169 rfl (lv_at hl 0 rfl) ?_
    refine g_f E F hw t_o0 cf11 fk_X11_1 dX11_when_170 rfl ?_
    refine lv_if_le (tgt := 178) hx hb dX11_when_173 (by decide) (fun c24 => ?_) (fun c24 => ?_)
    · rw [if_pos c24] at h
      refine lv_aload_n hx hb dX11_when_178 rfl (lv_at hl 0 rfl) ?_
      refine lv_aload_n hx hb dX11_when_179 rfl (lv_at hl 0 rfl) ?_
      refine lv_iload_n hx hb dX11_when_180 rfl (lv_at hl 1 rfl) ?_
      refine lv_iload_n hx hb dX11_when_181 rfl (lv_at hl 3 rfl) ?_
      obtain ⟨q17, h_q17, h⟩ := bb h
      refine z_VJ E F hw [.int x1, .int z3] (k_X11_hopesOf l D cy kc o0 x1 z3 (pI S3 w0 0 y1) h_q17 t_o0) t_o0 cf11 mk_X11_hopesOf vk_X11_hopesOf ml_X11_487 ⟨by decide, by decide⟩ rfl hl.1 rfl (Nat.le_of_ble_eq_true rfl) dX11_when_182 ⟨Nat.zero_le _, Nat.zero_le _⟩ (fun H locs hw hG => ?_)
      have t_o0 := hG.t t_o0
      have hg := hg.tr hG
      refine lv_aload_n hx hb dX11_when_185 rfl (lv_at hl 0 rfl) ?_
      obtain ⟨b18, r_b18, h⟩ := bb h
      obtain ⟨r_b18, t_b18⟩ := rk_some r_b18
      refine g_R E F hw t_o0 cf11 fk_X11_121 dX11_when_186 rfl r_b18 ?_
      refine lv_iload_n hx hb dX11_when_189 rfl (lv_at hl 3 rfl) ?_
      obtain ⟨c19, h⟩ := bg h
      refine a_j E F hw t_b18 c19 dX11_when_190 ?_
      refine lv_aload_n hx hb dX11_when_191 rfl (lv_at hl 0 rfl) ?_
      refine lv_iload_n hx hb dX11_when_192 rfl (lv_at hl 3 rfl) ?_
      obtain ⟨q20, h_q20, h⟩ := bb h
      refine z_VJ E F hw [.int z3] (k_X11_partsOf l D cy kc o0 z3 q17.2 h_q20 t_o0) t_o0 cf11 mk_X11_partsOf vk_X11_partsOf ml_X11_442 ⟨by decide, by decide⟩ rfl hl.1 rfl (Nat.le_of_ble_eq_true rfl) dX11_when_193 ⟨Nat.zero_le _, Nat.zero_le _⟩ (fun H locs hw hG => ?_)
      have t_o0 := hG.t t_o0
      have hg := hg.tr hG
      refine lv_lmul hx hb dX11_when_196 ?_
      obtain ⟨q21, h_q21, h⟩ := bb h
      refine z_VV E F hw [.long q17.1, .long ((sJ q17.2 b18 (Int32.toNatClampNeg z3)) * q20.1)] (k_X11_sets l D cy kc o0 q17.1 ((sJ q17.2 b18 (Int32.toNatClampNeg z3)) * q20.1) q20.2 h_q21 t_o0) t_o0 cf11 mk_X11_sets vk_X11_sets ml_X11_446 ⟨by decide, by decide⟩ rfl hl.1 rfl (Nat.le_of_ble_eq_true rfl) dX11_when_197 ⟨Nat.zero_le _, Nat.zero_le _⟩ (fun H locs hw hG => ?_)
      have t_o0 := hG.t t_o0
      have hg := hg.tr hG
      refine lv_iload_n hx hb dX11_when_200 rfl (lv_at hl 2 rfl) ?_
      refine lv_if_ne (tgt := 209) hx hb dX11_when_201 (by decide) (fun c23 => ?_) (fun c23 => ?_)
      · rw [if_neg c23] at h
        refine lv_aload_n hx hb dX11_when_209 rfl (lv_at hl 0 rfl) ?_
        refine lv_iload_n hx hb dX11_when_210 rfl (lv_at hl 2 rfl) ?_
        refine lv_iconst (v := 1) hx hb dX11_when_211 (by decide) ?_
        refine lv_isub hx hb dX11_when_212 ?_
        obtain ⟨q22, h_q22, h⟩ := bb h
        refine z_VJ E F hw [.int (x2 - (1 : Int32))] (k_X11_partFound l D cy kc o0 (x2 - (1 : Int32)) q21.2 h_q22 t_o0) t_o0 cf11 mk_X11_partFound vk_X11_partFound ml_X11_450 ⟨by decide, by decide⟩ rfl hl.1 rfl (Nat.le_of_ble_eq_true rfl) dX11_when_213 ⟨Nat.zero_le _, Nat.zero_le _⟩ (fun H locs hw hG => ?_)
        have t_o0 := hG.t t_o0
        have hg := hg.tr hG
        obtain rfl := Option.some.inj h
        exact r_J E hr hlk F hA hw hg dX11_when_216
      · rw [if_pos c23] at h
        refine lv_iload_n hx hb dX11_when_204 rfl (lv_at hl 3 rfl) ?_
        refine lv_i2l hx hb dX11_when_205 rfl ?_
        refine lv_goto (tgt := 216) hx hb dX11_when_206 (by decide) ?_
        obtain rfl := Option.some.inj h
        exact r_J E hr hlk F hA hw hg dX11_when_216
    · rw [if_neg c24] at h
      refine lv_lconst (v := 0) hx hb dX11_when_176 (by decide) ?_
      obtain rfl := Option.some.inj h
      exact r_J E hr hlk F hA hw hg dX11_when_177
  have J156 : ∀ (z3 : Int32) (S3 : PS) (H : Heap) (locs : List Loc) (ls : Array Slot), (f_X11_when_156 o0 x1 x2 z3 S3).bind some = some qq → Wd D cy A s H locs S3 → Gr S S3 → tD S3 o0 11 → lv_has ls 10 [(0, .ref o0), (1, .int x1), (2, .int x2), (3, .int z3)] → W p l e (rmK 12 451 0 0) s m args below meth c H locs 0 0 (MQ below (QJ D cy S qq.2 qq.1 s.heap.size) args s 0 0 A) (F0 m 156 ls []) := by
    intro z3 S3 H locs ls h hw hg t_o0 hl
    rw [f_X11_when_156] at h
    refine lv_aload_n hx hb dX11_when_156 rfl (lv_at hl 0 rfl) ?_
    refine lv_iload_n hx hb dX11_when_157 rfl (lv_at hl 3 rfl) ?_
    refine lv_if_lt (tgt := 165) hx hb dX11_when_158 (by decide) (fun c25 => ?_) (fun c25 => ?_)
    · rw [if_pos c25] at h
      refine lv_iconst (v := 1) hx hb dX11_when_165 (by decide) ?_
      exact J166 z3 o0 (1 : Int32) S3 _ _ _ h hw hg t_o0 t_o0 (lv_sub hl [0, 1, 2, 3] rfl)
    · rw [if_neg c25] at h
      refine lv_iconst (v := 0) hx hb dX11_when_161 (by decide) ?_
      refine lv_goto (tgt := 166) hx hb dX11_when_162 (by decide) ?_
      exact J166 z3 o0 (0 : Int32) S3 _ _ _ h hw hg t_o0 t_o0 (lv_sub hl [0, 1, 2, 3] rfl)
  have J23 : ∀ (w0 : Nat) (y1 : Int32) (S3 : PS) (H : Heap) (locs : List Loc) (ls : Array Slot), (f_X11_when_23 o0 x1 x2 w0 y1 S3).bind some = some qq → Wd D cy A s H locs S3 → Gr S S3 → tD S3 o0 11 → tD S3 w0 11 → lv_has ls 10 [(0, .ref o0), (1, .int x1), (2, .int x2)] → W p l e (rmK 12 451 0 0) s m args below meth c H locs 0 0 (MQ below (QJ D cy S qq.2 qq.1 s.heap.size) args s 0 0 A) (F0 m 23 ls [.int y1, .ref w0]) := by
    intro w0 y1 S3 H locs ls h hw hg t_o0 t_w0 hl
    rw [f_X11_when_23] at h
    refine p_I E F hw t_w0 cf11 fk_X11_1 rfl rfl rfl dX11_when_23 rfl (fun H locs hw => ?_)
    refine lv_aload_n hx hb dX11_when_26 rfl (lv_at hl 0 rfl) ?_
    refine g_f E F hw t_o0 cf11 fk_X11_1 dX11_when_27 rfl ?_
    refine lv_if_le (tgt := 35) hx hb dX11_when_30 (by decide) (fun c26 => ?_) (fun c26 => ?_)
    · rw [if_pos c26] at h
      refine lv_aload_n hx hb dX11_when_35 rfl (lv_at hl 0 rfl) ?_
      obtain ⟨q2, h_q2, h⟩ := bb h
      refine z_VV E F hw [] (k_X11_find l D cy kc o0 (pI S3 w0 0 y1) h_q2 t_o0) t_o0 cf11 mk_X11_find vk_X11_find ml_X11_419 ⟨by decide, by decide⟩ rfl hl.1 rfl (Nat.le_of_ble_eq_true rfl) dX11_when_36 ⟨Nat.zero_le _, Nat.zero_le _⟩ (fun H locs hw hG => ?_)
      have t_o0 := hG.t t_o0
      have hg := hg.tr hG
      refine lv_iconst (v := (-1)) hx hb dX11_when_39 (by decide) ?_
      refine lv_istore_n (lv' := [(3, .int (-1 : Int32)), (0, .ref o0), (1, .int x1), (2, .int x2)]) hx hb dX11_when_40 rfl hl (by decide) rfl (fun ls hl => ?_)
      refine lv_lconst (v := 0) hx hb dX11_when_41 (by decide) ?_
      refine lv_lstore (lv' := [(4, .long (0 : Int64)), (3, .int (-1 : Int32)), (0, .ref o0), (1, .int x1), (2, .int x2)]) hx hb dX11_when_42 hl (by decide) rfl (fun ls hl => ?_)
      refine lv_iconst (v := 0) hx hb dX11_when_44 (by decide) ?_
      refine lv_istore (lv' := [(6, .int (0 : Int32)), (4, .long (0 : Int64)), (3, .int (-1 : Int32)), (0, .ref o0), (1, .int x1), (2, .int x2)]) hx hb dX11_when_45 hl (by decide) rfl (fun ls hl => ?_)
      obtain ⟨y16, hy16, h⟩ := bb h
      refine L47 o0 x1 x2 fu (-1 : Int32) (0 : Int64) (0 : Int32) q2.2 y16 hy16 _ _ _ hw (hg) t_o0 (lv_sub hl [3, 4, 5, 2, 1, 0] rfl) (fun e0 S2 he H locs ls hw hG hl => ?_) (fun r he => ?_)
      · subst he
        have t_o0 := hG.t t_o0
        have hg := hg.tr hG
        exact J156 e0 S2 _ _ _ h hw hg t_o0 (lv_sub hl [0, 1, 2, 3] rfl)
      · subst he
        exact Option.some.inj h
    · rw [if_neg c26] at h
      refine lv_lconst (v := 0) hx hb dX11_when_33 (by decide) ?_
      obtain rfl := Option.some.inj h
      exact r_J E hr hlk F hA hw hg dX11_when_34
  rw [f_X11_when] at h
  refine lv_aload_n hx hb dX11_when_0 rfl (lv_at hl 0 rfl) ?_
  refine lv_aload_n hx hb dX11_when_1 rfl (lv_at hl 0 rfl) ?_
  refine lv_iload_n hx hb dX11_when_2 rfl (lv_at hl 1 rfl) ?_
  obtain ⟨q1, h_q1, h⟩ := bb h
  refine z_VI E F hw [.int x1] (k_X11_isSort l D cy kc o0 x1 S h_q1 t_o0) t_o0 cf11 mk_X11_isSort vk_X11_isSort ml_X11_338 ⟨by decide, by decide⟩ rfl hl.1 rfl (Nat.le_of_ble_eq_true rfl) dX11_when_3 ⟨Nat.zero_le _, Nat.zero_le _⟩ (fun H locs hw hG => ?_)
  have t_o0 := hG.t t_o0
  have hg := hg.tr hG
  refine lv_if_eq (tgt := 22) hx hb dX11_when_6 (by decide) (fun c29 => ?_) (fun c29 => ?_)
  · rw [if_pos c29] at h
    refine lv_iconst (v := 1) hx hb dX11_when_22 (by decide) ?_
    exact J23 o0 (1 : Int32) q1.2 _ _ _ h hw hg t_o0 t_o0 (lv_sub hl [0, 1, 2] rfl)
  · rw [if_neg c29] at h
    refine lv_iload_n hx hb dX11_when_9 rfl (lv_at hl 2 rfl) ?_
    refine lv_iconst (v := 0) hx hb dX11_when_10 (by decide) ?_
    refine lv_iconst (v := 2) hx hb dX11_when_11 (by decide) ?_
    obtain ⟨q27, h_q27, h⟩ := bb h
    refine z_SI E F hw [.int x2, .int (0 : Int32), .int (2 : Int32)] (k_X11_within l D cy kc x2 (0 : Int32) (2 : Int32) q1.2 h_q27) mk_X11_within sk_X11_within ml_X11_303 ⟨by decide, by decide⟩ rfl hl.1 rfl (Nat.le_of_ble_eq_true rfl) dX11_when_12 ⟨Nat.zero_le _, Nat.zero_le _⟩ (fun H locs hw hG => ?_)
    have t_o0 := hG.t t_o0
    have hg := hg.tr hG
    refine lv_if_eq (tgt := 22) hx hb dX11_when_15 (by decide) (fun c28 => ?_) (fun c28 => ?_)
    · rw [if_pos c28] at h
      refine lv_iconst (v := 1) hx hb dX11_when_22 (by decide) ?_
      exact J23 o0 (1 : Int32) q27.2 _ _ _ h hw hg t_o0 t_o0 (lv_sub hl [0, 1, 2] rfl)
    · rw [if_neg c28] at h
      refine lv_iconst (v := 0) hx hb dX11_when_18 (by decide) ?_
      refine lv_goto (tgt := 23) hx hb dX11_when_19 (by decide) ?_
      exact J23 o0 (0 : Int32) q27.2 _ _ _ h hw hg t_o0 t_o0 (lv_sub hl [0, 1, 2] rfl)
def f_X11_mark_b91 (o0 : Nat) (x1 : Int32) (x2 : Int32) (x3 : Int32) (S1 : PS) : Option ((Int32 × PS) ⊕ ((Int32 × PS) ⊕ (PS))) :=
  (if (48 : Int32) ≤ x3 then some (.inr (.inr (S1))) else (if x2 = 0 then (rk S1 (sR S1 o0 50) 13).bind fun b7 => (rk S1 (sR S1 o0 41) 13).bind fun b8 => if ib x3 (sN S1 b8) = true then if ib (((48 : Int32) * x1) + x3) (sN S1 b7) = true then some (.inl (x3 + 1, pI S1 b7 (Int32.toNatClampNeg (((48 : Int32) * x1) + x3)) (sI S1 b8 (Int32.toNatClampNeg x3)))) else none else none else (rk S1 (sR S1 o0 41) 13).bind fun b11 => (rk S1 (sR S1 o0 50) 13).bind fun b12 => if ib (((48 : Int32) * x1) + x3) (sN S1 b12) = true then if ib x3 (sN S1 b11) = true then some (.inl (x3 + 1, pI S1 b11 (Int32.toNatClampNeg x3) (sI S1 b12 (Int32.toNatClampNeg (((48 : Int32) * x1) + x3))))) else none else none))
def f_X11_mark_144  (S3 : PS) : Option (Int32 × PS) :=
  some ((1 : Int32), S3)
def f_X11_mark_29 (o0 : Nat) (x1 : Int32) (x2 : Int32) (S3 : PS) : Option (Int32 × PS) :=
  (if x2 = 0 then (rk S3 (sR S3 o0 48) 15).bind fun b2 => if ib x1 (sN S3 b2) = true then (f_X11_carry o0 (0 : Int32) ((2 : Int32) + x1) (pI S3 b2 (Int32.toNatClampNeg x1) (1 : Int32))).bind fun q4 => (rk q4.2 (sR q4.2 o0 49) 13).bind fun b5 => if ib x1 (sN q4.2 b5) = true then (loopN (fun a => f_X11_mark_b91 o0 x1 x2 a.1 a.2) fu ((0 : Int32), pI q4.2 b5 (Int32.toNatClampNeg x1) (sI q4.2 o0 40))).bind (Sum.elim (fun r => some r) (fun a => f_X11_mark_144  a)) else none else none else (f_X11_carry o0 ((2 : Int32) + x1) (0 : Int32) S3).bind fun q18 => (rk (pI (pI q18.2 o0 19 (1 : Int32)) o0 20 (1 : Int32)) (sR (pI (pI q18.2 o0 19 (1 : Int32)) o0 20 (1 : Int32)) o0 49) 13).bind fun b19 => if ib x1 (sN (pI (pI q18.2 o0 19 (1 : Int32)) o0 20 (1 : Int32)) b19) = true then (loopN (fun a => f_X11_mark_b91 o0 x1 x2 a.1 a.2) fu ((0 : Int32), pI (pI (pI q18.2 o0 19 (1 : Int32)) o0 20 (1 : Int32)) o0 40 (sI (pI (pI q18.2 o0 19 (1 : Int32)) o0 20 (1 : Int32)) b19 (Int32.toNatClampNeg x1)))).bind (Sum.elim (fun r => some r) (fun a => f_X11_mark_144  a)) else none)
def f_X11_mark (o0 : Nat) (x1 : Int32) (x2 : Int32) (S : PS) : Option (Int32 × PS) :=
  (f_X11_within x1 (0 : Int32) (3 : Int32) (pI S o0 0 (0 : Int32))).bind fun q1 => (if q1.1 = 0 then some ((0 : Int32), q1.2) else (if x2 = 0 then f_X11_mark_29 o0 x1 x2 q1.2 else (rk q1.2 (sR q1.2 o0 48) 15).bind fun b23 => if ib x1 (sN q1.2 b23) = true then (if (sI q1.2 b23 (Int32.toNatClampNeg x1)) = 0 then some ((0 : Int32), q1.2) else f_X11_mark_29 o0 x1 x2 q1.2) else none))
set_option maxHeartbeats 4000000 in
set_option maxRecDepth 100000 in
theorem k_X11_mark (l : Launch) (D : va_G) (cy : Nat → ClassId) (kc : Nat → Nat) (o0 : Nat) (x1 : Int32) (x2 : Int32) (S : PS) {qq : Int32 × PS} (h : f_X11_mark o0 x1 x2 S = some qq) (t_o0 : tD S o0 11) : KI l D cy kc yX11_mark cX11_mark 4 .boolean (rmK 2 54 0 0) [.ref o0, .int x1, .int x2] S qq.1 qq.2 := by
  refine K_body (Qc := QI D cy S qq.2 qq.1) (by decide) (Nat.le_of_ble_eq_true rfl) ?_
  intro p e s m below meth c A ls args E hr hlk hnm hA F hw hl
  have hx := E.1
  have hb := E.2.1
  have hl : lv_has ls 4 [(0, .ref o0), (1, .int x1), (2, .int x2)] := hl
  have hg : Gr S S := Gr.rf
  replace h : (f_X11_mark o0 x1 x2 S).bind some = some qq := by rw [h]; rfl
  have L91 : ∀ (o0 : Nat) (x1 : Int32) (x2 : Int32) (n : Nat) (x3 : Int32) (S1 : PS) (o : (Int32 × PS) ⊕ (PS)), loopN (fun a => f_X11_mark_b91 o0 x1 x2 a.1 a.2) n (x3, S1) = some o → ∀ (H : Heap) (locs : List Loc) (ls : Array Slot), Wd D cy A s H locs S1 → Gr S S1 → tD S1 o0 11 → lv_has ls 4 [(0, .ref o0), (1, .int x1), (2, .int x2), (3, .int x3)] → (∀ (S2 : PS), o = .inr (S2) → ∀ (H : Heap) (locs : List Loc) (ls : Array Slot), Wd D cy A s H locs S2 → Gr S1 S2 → lv_has ls 4 [] → W p l e (rmK 2 54 0 0) s m args below meth c H locs 0 0 (MQ below (QI D cy S qq.2 qq.1 s.heap.size) args s 0 0 A) (F0 m 144 ls [])) → (∀ q9, o = .inl q9 → q9 = qq) → W p l e (rmK 2 54 0 0) s m args below meth c H locs 0 0 (MQ below (QI D cy S qq.2 qq.1 s.heap.size) args s 0 0 A) (F0 m 91 ls []) := by
    intro o0 x1 x2 n
    induction n with
    | zero => intro x3 S1 o h; exact absurd h (by simp [loopN])
    | succ n ih =>
      intro x3 S1 o h H locs ls hw hG0 t_o0 hl hx2 hq2
      have hg : Gr S1 S1 := Gr.rf
      replace h : (f_X11_mark_b91 o0 x1 x2 x3 S1).bind (Sum.elim (loopN (fun a => f_X11_mark_b91 o0 x1 x2 a.1 a.2) n) some) = some o := h
      rw [f_X11_mark_b91] at h
      refine lv_iload_n hx hb dX11_mark_91 rfl (lv_at hl 3 rfl) ?_
      refine lv_bipush (v := 48) hx hb dX11_mark_92 (by decide) ?_
      refine lv_icmp_ge (tgt := 144) hx hb dX11_mark_94 (by decide) (fun c16 => ?_) (fun c16 => ?_)
      · rw [if_pos c16] at h
        obtain rfl := Option.some.inj h
        exact hx2 S1 rfl _ _ _ hw hg (lv_sub hl [] rfl)
      · rw [if_neg c16] at h
        refine lv_iload_n hx hb dX11_mark_97 rfl (lv_at hl 2 rfl) ?_
        refine lv_if_eq (tgt := 121) hx hb dX11_mark_98 (by decide) (fun c15 => ?_) (fun c15 => ?_)
        · rw [if_pos c15] at h
          refine lv_aload_n hx hb dX11_mark_121 rfl (lv_at hl 0 rfl) ?_
          obtain ⟨b7, r_b7, h⟩ := bb h
          obtain ⟨r_b7, t_b7⟩ := rk_some r_b7
          refine g_R E F hw t_o0 cf11 fk_X11_160 dX11_mark_122 rfl r_b7 ?_
          refine lv_bipush (v := 48) hx hb dX11_mark_125 (by decide) ?_
          refine lv_iload_n hx hb dX11_mark_127 rfl (lv_at hl 1 rfl) ?_
          refine lv_imul hx hb dX11_mark_128 ?_
          refine lv_iload_n hx hb dX11_mark_129 rfl (lv_at hl 3 rfl) ?_
          refine lv_iadd hx hb dX11_mark_130 ?_
          refine lv_aload_n hx hb dX11_mark_131 rfl (lv_at hl 0 rfl) ?_
          obtain ⟨b8, r_b8, h⟩ := bb h
          obtain ⟨r_b8, t_b8⟩ := rk_some r_b8
          refine g_R E F hw t_o0 cf11 fk_X11_148 dX11_mark_132 rfl r_b8 ?_
          refine lv_iload_n hx hb dX11_mark_135 rfl (lv_at hl 3 rfl) ?_
          obtain ⟨c9, h⟩ := bg h
          refine a_i E F hw t_b8 c9 dX11_mark_136 ?_
          obtain ⟨c10, h⟩ := bg h
          refine b_i E F hw t_b7 c10 dX11_mark_137 (fun H locs hw => ?_)
          refine lv_iinc (v := x3 + 1) (lv' := [(3, .int (x3 + 1)), (0, .ref o0), (1, .int x1), (2, .int x2)]) hx hb dX11_mark_138 hl (k := 3) rfl rfl (by decide) rfl (fun ls hl => ?_)
          refine lv_goto (tgt := 91) hx hb dX11_mark_141 (by decide) ?_
          exact ih (x3 + 1) (pI S1 b7 (Int32.toNatClampNeg (((48 : Int32) * x1) + x3)) (sI S1 b8 (Int32.toNatClampNeg x3))) _ h _ _ _ hw (hG0.tr hg) t_o0 (lv_sub hl [1, 2, 3, 0] rfl) (fun  S2 he H locs ls hw hG hl => hx2  S2 he H locs ls hw (hg.tr hG) hl) hq2
        · rw [if_neg c15] at h
          refine lv_aload_n hx hb dX11_mark_101 rfl (lv_at hl 0 rfl) ?_
          obtain ⟨b11, r_b11, h⟩ := bb h
          obtain ⟨r_b11, t_b11⟩ := rk_some r_b11
          refine g_R E F hw t_o0 cf11 fk_X11_148 dX11_mark_102 rfl r_b11 ?_
          refine lv_iload_n hx hb dX11_mark_105 rfl (lv_at hl 3 rfl) ?_
          refine lv_aload_n hx hb dX11_mark_106 rfl (lv_at hl 0 rfl) ?_
          obtain ⟨b12, r_b12, h⟩ := bb h
          obtain ⟨r_b12, t_b12⟩ := rk_some r_b12
          refine g_R E F hw t_o0 cf11 fk_X11_160 dX11_mark_107 rfl r_b12 ?_
          refine lv_bipush (v := 48) hx hb dX11_mark_110 (by decide) ?_
          refine lv_iload_n hx hb dX11_mark_112 rfl (lv_at hl 1 rfl) ?_
          refine lv_imul hx hb dX11_mark_113 ?_
          refine lv_iload_n hx hb dX11_mark_114 rfl (lv_at hl 3 rfl) ?_
          refine lv_iadd hx hb dX11_mark_115 ?_
          obtain ⟨c13, h⟩ := bg h
          refine a_i E F hw t_b12 c13 dX11_mark_116 ?_
          obtain ⟨c14, h⟩ := bg h
          refine b_i E F hw t_b11 c14 dX11_mark_117 (fun H locs hw => ?_)
          refine lv_goto (tgt := 138) hx hb dX11_mark_118 (by decide) ?_
          refine lv_iinc (v := x3 + 1) (lv' := [(3, .int (x3 + 1)), (0, .ref o0), (1, .int x1), (2, .int x2)]) hx hb dX11_mark_138 hl (k := 3) rfl rfl (by decide) rfl (fun ls hl => ?_)
          refine lv_goto (tgt := 91) hx hb dX11_mark_141 (by decide) ?_
          exact ih (x3 + 1) (pI S1 b11 (Int32.toNatClampNeg x3) (sI S1 b12 (Int32.toNatClampNeg (((48 : Int32) * x1) + x3)))) _ h _ _ _ hw (hG0.tr hg) t_o0 (lv_sub hl [1, 2, 3, 0] rfl) (fun  S2 he H locs ls hw hG hl => hx2  S2 he H locs ls hw (hg.tr hG) hl) hq2
  have J144 : ∀  (S3 : PS) (H : Heap) (locs : List Loc) (ls : Array Slot), (f_X11_mark_144  S3).bind some = some qq → Wd D cy A s H locs S3 → Gr S S3 → lv_has ls 4 [] → W p l e (rmK 2 54 0 0) s m args below meth c H locs 0 0 (MQ below (QI D cy S qq.2 qq.1 s.heap.size) args s 0 0 A) (F0 m 144 ls []) := by
    intro  S3 H locs ls h hw hg  hl
    rw [f_X11_mark_144] at h
    refine lv_iconst (v := 1) hx hb dX11_mark_144 (by decide) ?_
    obtain rfl := Option.some.inj h
    exact r_Z E hr hlk F hA hw hg rfl dX11_mark_145
  have J29 : ∀  (S3 : PS) (H : Heap) (locs : List Loc) (ls : Array Slot), (f_X11_mark_29 o0 x1 x2 S3).bind some = some qq → Wd D cy A s H locs S3 → Gr S S3 → tD S3 o0 11 → lv_has ls 4 [(0, .ref o0), (1, .int x1), (2, .int x2)] → W p l e (rmK 2 54 0 0) s m args below meth c H locs 0 0 (MQ below (QI D cy S qq.2 qq.1 s.heap.size) args s 0 0 A) (F0 m 29 ls []) := by
    intro  S3 H locs ls h hw hg t_o0 hl
    rw [f_X11_mark_29] at h
    refine lv_iload_n hx hb dX11_mark_29 rfl (lv_at hl 2 rfl) ?_
    refine lv_if_eq (tgt := 64) hx hb dX11_mark_30 (by decide) (fun c22 => ?_) (fun c22 => ?_)
    · rw [if_pos c22] at h
      refine lv_aload_n hx hb dX11_mark_64 rfl (lv_at hl 0 rfl) ?_
      obtain ⟨b2, r_b2, h⟩ := bb h
      obtain ⟨r_b2, t_b2⟩ := rk_some r_b2
      refine g_R E F hw t_o0 cf11 fk_X11_154 dX11_mark_65 rfl r_b2 ?_
      refine lv_iload_n hx hb dX11_mark_68 rfl (lv_at hl 1 rfl) ?_
      refine lv_iconst (v := 1) hx hb dX11_mark_69 (by decide) ?_
      obtain ⟨c3, h⟩ := bg h
      refine b_z E F hw t_b2 c3 rfl dX11_mark_70 (fun H locs hw => ?_)
      refine lv_aload_n hx hb dX11_mark_71 rfl (lv_at hl 0 rfl) ?_
      refine lv_iconst (v := 0) hx hb dX11_mark_72 (by decide) ?_
      refine lv_iconst (v := 2) hx hb dX11_mark_73 (by decide) ?_
      refine lv_iload_n hx hb dX11_mark_74 rfl (lv_at hl 1 rfl) ?_
      refine lv_iadd hx hb dX11_mark_75 ?_
      obtain ⟨q4, h_q4, h⟩ := bb h
      refine z_VV E F hw [.int (0 : Int32), .int ((2 : Int32) + x1)] (k_X11_carry l D cy kc o0 (0 : Int32) ((2 : Int32) + x1) (pI S3 b2 (Int32.toNatClampNeg x1) (1 : Int32)) h_q4 t_o0) t_o0 cf11 mk_X11_carry vk_X11_carry ml_X11_230 ⟨by decide, by decide⟩ rfl hl.1 rfl (Nat.le_of_ble_eq_true rfl) dX11_mark_76 ⟨Nat.zero_le _, Nat.zero_le _⟩ (fun H locs hw hG => ?_)
      have t_o0 := hG.t t_o0
      have hg := hg.tr hG
      refine lv_aload_n hx hb dX11_mark_79 rfl (lv_at hl 0 rfl) ?_
      obtain ⟨b5, r_b5, h⟩ := bb h
      obtain ⟨r_b5, t_b5⟩ := rk_some r_b5
      refine g_R E F hw t_o0 cf11 fk_X11_157 dX11_mark_80 rfl r_b5 ?_
      refine lv_iload_n hx hb dX11_mark_83 rfl (lv_at hl 1 rfl) ?_
      refine lv_aload_n hx hb dX11_mark_84 rfl (lv_at hl 0 rfl) ?_
      refine g_f E F hw t_o0 cf11 fk_X11_234 dX11_mark_85 rfl ?_
      obtain ⟨c6, h⟩ := bg h
      refine b_i E F hw t_b5 c6 dX11_mark_88 (fun H locs hw => ?_)
      refine lv_iconst (v := 0) hx hb dX11_mark_89 (by decide) ?_
      refine lv_istore_n (lv' := [(3, .int (0 : Int32)), (0, .ref o0), (1, .int x1), (2, .int x2)]) hx hb dX11_mark_90 rfl hl (by decide) rfl (fun ls hl => ?_)
      obtain ⟨y17, hy17, h⟩ := bb h
      refine L91 o0 x1 x2 fu (0 : Int32) (pI q4.2 b5 (Int32.toNatClampNeg x1) (sI q4.2 o0 40)) y17 hy17 _ _ _ hw (hg) t_o0 (lv_sub hl [1, 2, 3, 0] rfl) (fun  S2 he H locs ls hw hG hl => ?_) (fun r he => ?_)
      · subst he
        have hg := hg.tr hG
        exact J144  S2 _ _ _ h hw hg  (lv_sub hl [] rfl)
      · subst he
        exact Option.some.inj h
    · rw [if_neg c22] at h
      refine lv_aload_n hx hb dX11_mark_33 rfl (lv_at hl 0 rfl) ?_
      refine lv_iconst (v := 2) hx hb dX11_mark_34 (by decide) ?_
      refine lv_iload_n hx hb dX11_mark_35 rfl (lv_at hl 1 rfl) ?_
      refine lv_iadd hx hb dX11_mark_36 ?_
      refine lv_iconst (v := 0) hx hb dX11_mark_37 (by decide) ?_
      obtain ⟨q18, h_q18, h⟩ := bb h
      refine z_VV E F hw [.int ((2 : Int32) + x1), .int (0 : Int32)] (k_X11_carry l D cy kc o0 ((2 : Int32) + x1) (0 : Int32) S3 h_q18 t_o0) t_o0 cf11 mk_X11_carry vk_X11_carry ml_X11_230 ⟨by decide, by decide⟩ rfl hl.1 rfl (Nat.le_of_ble_eq_true rfl) dX11_mark_38 ⟨Nat.zero_le _, Nat.zero_le _⟩ (fun H locs hw hG => ?_)
      have t_o0 := hG.t t_o0
      have hg := hg.tr hG
      refine lv_aload_n hx hb dX11_mark_41 rfl (lv_at hl 0 rfl) ?_
      refine lv_iconst (v := 1) hx hb dX11_mark_42 (by decide) ?_
      refine p_I E F hw t_o0 cf11 fk_X11_163 rfl (isB_nar rfl) (isB_fit rfl) dX11_mark_43 rfl (fun H locs hw => ?_)
      refine lv_aload_n hx hb dX11_mark_46 rfl (lv_at hl 0 rfl) ?_
      refine lv_iconst (v := 1) hx hb dX11_mark_47 (by decide) ?_
      refine p_I E F hw t_o0 cf11 fk_X11_167 rfl (isB_nar rfl) (isB_fit rfl) dX11_mark_48 rfl (fun H locs hw => ?_)
      refine lv_aload_n hx hb dX11_mark_51 rfl (lv_at hl 0 rfl) ?_
      refine lv_aload_n hx hb dX11_mark_52 rfl (lv_at hl 0 rfl) ?_
      obtain ⟨b19, r_b19, h⟩ := bb h
      obtain ⟨r_b19, t_b19⟩ := rk_some r_b19
      refine g_R E F hw t_o0 cf11 fk_X11_157 dX11_mark_53 rfl r_b19 ?_
      refine lv_iload_n hx hb dX11_mark_56 rfl (lv_at hl 1 rfl) ?_
      obtain ⟨c20, h⟩ := bg h
      refine a_i E F hw t_b19 c20 dX11_mark_57 ?_
      refine p_I E F hw t_o0 cf11 fk_X11_234 rfl rfl rfl dX11_mark_58 rfl (fun H locs hw => ?_)
      refine lv_goto (tgt := 89) hx hb dX11_mark_61 (by decide) ?_
      refine lv_iconst (v := 0) hx hb dX11_mark_89 (by decide) ?_
      refine lv_istore_n (lv' := [(3, .int (0 : Int32)), (0, .ref o0), (1, .int x1), (2, .int x2)]) hx hb dX11_mark_90 rfl hl (by decide) rfl (fun ls hl => ?_)
      obtain ⟨y21, hy21, h⟩ := bb h
      refine L91 o0 x1 x2 fu (0 : Int32) (pI (pI (pI q18.2 o0 19 (1 : Int32)) o0 20 (1 : Int32)) o0 40 (sI (pI (pI q18.2 o0 19 (1 : Int32)) o0 20 (1 : Int32)) b19 (Int32.toNatClampNeg x1))) y21 hy21 _ _ _ hw (hg) t_o0 (lv_sub hl [1, 2, 3, 0] rfl) (fun  S2 he H locs ls hw hG hl => ?_) (fun r he => ?_)
      · subst he
        have hg := hg.tr hG
        exact J144  S2 _ _ _ h hw hg  (lv_sub hl [] rfl)
      · subst he
        exact Option.some.inj h
  rw [f_X11_mark] at h
  refine lv_aload_n hx hb dX11_mark_0 rfl (lv_at hl 0 rfl) ?_
  refine lv_iconst (v := 0) hx hb dX11_mark_1 (by decide) ?_
  refine p_I E F hw t_o0 cf11 fk_X11_1 rfl rfl rfl dX11_mark_2 rfl (fun H locs hw => ?_)
  refine lv_iload_n hx hb dX11_mark_5 rfl (lv_at hl 1 rfl) ?_
  refine lv_iconst (v := 0) hx hb dX11_mark_6 (by decide) ?_
  refine lv_iconst (v := 3) hx hb dX11_mark_7 (by decide) ?_
  obtain ⟨q1, h_q1, h⟩ := bb h
  refine z_SI E F hw [.int x1, .int (0 : Int32), .int (3 : Int32)] (k_X11_within l D cy kc x1 (0 : Int32) (3 : Int32) (pI S o0 0 (0 : Int32)) h_q1) mk_X11_within sk_X11_within ml_X11_303 ⟨by decide, by decide⟩ rfl hl.1 rfl (Nat.le_of_ble_eq_true rfl) dX11_mark_8 ⟨Nat.zero_le _, Nat.zero_le _⟩ (fun H locs hw hG => ?_)
  have t_o0 := hG.t t_o0
  have hg := hg.tr hG
  refine lv_if_eq (tgt := 27) hx hb dX11_mark_11 (by decide) (fun c27 => ?_) (fun c27 => ?_)
  · rw [if_pos c27] at h
    refine lv_iconst (v := 0) hx hb dX11_mark_27 (by decide) ?_
    obtain rfl := Option.some.inj h
    exact r_Z E hr hlk F hA hw hg rfl dX11_mark_28
  · rw [if_neg c27] at h
    refine lv_iload_n hx hb dX11_mark_14 rfl (lv_at hl 2 rfl) ?_
    refine lv_if_eq (tgt := 29) hx hb dX11_mark_15 (by decide) (fun c26 => ?_) (fun c26 => ?_)
    · rw [if_pos c26] at h
      exact J29  q1.2 _ _ _ h hw hg t_o0 (lv_sub hl [0, 1, 2] rfl)
    · rw [if_neg c26] at h
      refine lv_aload_n hx hb dX11_mark_18 rfl (lv_at hl 0 rfl) ?_
      obtain ⟨b23, r_b23, h⟩ := bb h
      obtain ⟨r_b23, t_b23⟩ := rk_some r_b23
      refine g_R E F hw t_o0 cf11 fk_X11_154 dX11_mark_19 rfl r_b23 ?_
      refine lv_iload_n hx hb dX11_mark_22 rfl (lv_at hl 1 rfl) ?_
      obtain ⟨c24, h⟩ := bg h
      refine a_z E F hw t_b23 c24 dX11_mark_23 ?_
      refine lv_if_ne (tgt := 29) hx hb dX11_mark_24 (by decide) (fun c25 => ?_) (fun c25 => ?_)
      · rw [if_neg c25] at h
        exact J29  q1.2 _ _ _ h hw hg t_o0 (lv_sub hl [0, 1, 2] rfl)
      · rw [if_pos c25] at h
        refine lv_iconst (v := 0) hx hb dX11_mark_27 (by decide) ?_
        obtain rfl := Option.some.inj h
        exact r_Z E hr hlk F hA hw hg rfl dX11_mark_28
def f_X11_count_b96 (o0 : Nat) (x2 : Int32) (x3 : Int32) (S1 : PS) : Option ((Int32 × Int32 × PS) ⊕ ((Int32 × PS) ⊕ (Int32 × PS))) :=
  (f_X11_things o0 S1).bind fun q9 => (if q9.1 ≤ x3 then some (.inr (.inr (x2, q9.2))) else (f_X11_thingOf o0 x3 (0 : Int32) q9.2).bind fun q10 => some (.inl ((x2 * q10.1), x3 + 1, q10.2)))
def f_X11_count_119 (z2 : Int32) (S3 : PS) : Option (Int32 × PS) :=
  some (z2, S3)
def f_X11_count_160b136 (o0 : Nat) (z3 : Int32) (y0 : Int32) (y1 : Int32) (S3 : PS) : Option ((Int32 × Int32 × PS) ⊕ ((Int32 × PS) ⊕ (Int32 × PS))) :=
  some (.inl ((y0 + y1), z3 + 1, S3))
def f_X11_count_b136 (o0 : Nat) (x2 : Int32) (x3 : Int32) (S1 : PS) : Option ((Int32 × Int32 × PS) ⊕ ((Int32 × PS) ⊕ (Int32 × PS))) :=
  (if (16 : Int32) ≤ x3 then some (.inr (.inr (x2, S1))) else (rk S1 (sR S1 o0 10) 13).bind fun b19 => if ib ((29 : Int32) + x3) (sN S1 b19) = true then (if (sI S1 b19 (Int32.toNatClampNeg ((29 : Int32) + x3))) ≤ 0 then f_X11_count_160b136 o0 x3 x2 (0 : Int32) S1 else f_X11_count_160b136 o0 x3 x2 (1 : Int32) S1) else none)
def f_X11_count_168 (z2 : Int32) (S3 : PS) : Option (Int32 × PS) :=
  some (z2, S3)
def f_X11_count_196b172 (o0 : Nat) (z3 : Int32) (y0 : Int32) (y1 : Int32) (S3 : PS) : Option ((Int32 × Int32 × PS) ⊕ ((Int32 × PS) ⊕ (Int32 × PS))) :=
  some (.inl ((y0 + y1), z3 + 1, S3))
def f_X11_count_b172 (o0 : Nat) (x2 : Int32) (x3 : Int32) (S1 : PS) : Option ((Int32 × Int32 × PS) ⊕ ((Int32 × PS) ⊕ (Int32 × PS))) :=
  (if (16 : Int32) ≤ x3 then some (.inr (.inr (x2, S1))) else (rk S1 (sR S1 o0 10) 13).bind fun b25 => if ib ((61 : Int32) + x3) (sN S1 b25) = true then (if (sI S1 b25 (Int32.toNatClampNeg ((61 : Int32) + x3))) ≤ 0 then f_X11_count_196b172 o0 x3 x2 (0 : Int32) S1 else f_X11_count_196b172 o0 x3 x2 (1 : Int32) S1) else none)
def f_X11_count_204 (z2 : Int32) (S3 : PS) : Option (Int32 × PS) :=
  some (z2, S3)
def f_X11_count_232b208 (o0 : Nat) (z3 : Int32) (y0 : Int32) (y1 : Int32) (S3 : PS) : Option ((Int32 × Int32 × PS) ⊕ ((Int32 × PS) ⊕ (Int32 × PS))) :=
  some (.inl ((y0 + y1), z3 + 1, S3))
def f_X11_count_b208 (o0 : Nat) (x2 : Int32) (x3 : Int32) (S1 : PS) : Option ((Int32 × Int32 × PS) ⊕ ((Int32 × PS) ⊕ (Int32 × PS))) :=
  (if (16 : Int32) ≤ x3 then some (.inr (.inr (x2, S1))) else (rk S1 (sR S1 o0 10) 13).bind fun b31 => if ib ((45 : Int32) + x3) (sN S1 b31) = true then (if (sI S1 b31 (Int32.toNatClampNeg ((45 : Int32) + x3))) ≤ 0 then f_X11_count_232b208 o0 x3 x2 (0 : Int32) S1 else f_X11_count_232b208 o0 x3 x2 (1 : Int32) S1) else none)
def f_X11_count_240 (z2 : Int32) (S3 : PS) : Option (Int32 × PS) :=
  some (z2, S3)
def f_X11_count (o0 : Nat) (x1 : Int32) (S : PS) : Option (Int32 × PS) :=
  (if x1 = 0 then (f_X11_things o0 (pI S o0 0 (0 : Int32))).bind fun q1 => some (q1.1, q1.2) else if x1 = 1 then (f_X11_sorts o0 (pI S o0 0 (0 : Int32))).bind fun q3 => some (q3.1, q3.2) else if x1 = 2 then (f_X11_springs o0 (pI S o0 0 (0 : Int32))).bind fun q5 => some (q5.1, q5.2) else if x1 = 3 then (f_X11_life o0 (pI S o0 0 (0 : Int32))).bind fun q7 => some (q7.1, q7.2) else if x1 = 4 then (loopN (fun a => f_X11_count_b96 o0 a.1 a.2.1 a.2.2) fu ((1 : Int32), (0 : Int32), pI S o0 0 (0 : Int32))).bind (Sum.elim (fun r => some r) (fun a => f_X11_count_119 a.1 a.2)) else if x1 = 5 then (f_X11_startOf o0 (pI S o0 0 (0 : Int32))).bind fun q14 => some (q14.1, q14.2) else if x1 = 6 then (rk (pI S o0 0 (0 : Int32)) (sR (pI S o0 0 (0 : Int32)) o0 10) 13).bind fun b16 => if ib (22 : Int32) (sN (pI S o0 0 (0 : Int32)) b16) = true then some ((sI (pI S o0 0 (0 : Int32)) b16 (Int32.toNatClampNeg (22 : Int32))), pI S o0 0 (0 : Int32)) else none else if x1 = 7 then (loopN (fun a => f_X11_count_b136 o0 a.1 a.2.1 a.2.2) fu ((0 : Int32), (0 : Int32), pI S o0 0 (0 : Int32))).bind (Sum.elim (fun r => some r) (fun a => f_X11_count_168 a.1 a.2)) else if x1 = 8 then (loopN (fun a => f_X11_count_b172 o0 a.1 a.2.1 a.2.2) fu ((0 : Int32), (0 : Int32), pI S o0 0 (0 : Int32))).bind (Sum.elim (fun r => some r) (fun a => f_X11_count_204 a.1 a.2)) else if x1 = 9 then (loopN (fun a => f_X11_count_b208 o0 a.1 a.2.1 a.2.2) fu ((0 : Int32), (0 : Int32), pI S o0 0 (0 : Int32))).bind (Sum.elim (fun r => some r) (fun a => f_X11_count_240 a.1 a.2)) else if x1 = 10 then some ((sI (pI S o0 0 (0 : Int32)) o0 2), pI S o0 0 (0 : Int32)) else if x1 = 11 then some ((sI (pI S o0 0 (0 : Int32)) o0 40), pI S o0 0 (0 : Int32)) else some ((-1 : Int32), pI S o0 0 (0 : Int32)))
set_option maxHeartbeats 4000000 in
set_option maxRecDepth 100000 in
theorem k_X11_count (l : Launch) (D : va_G) (cy : Nat → ClassId) (kc : Nat → Nat) (o0 : Nat) (x1 : Int32) (S : PS) {qq : Int32 × PS} (h : f_X11_count o0 x1 S = some qq) (t_o0 : tD S o0 11) : KI l D cy kc yX11_count cX11_count 4 .int (rmK 3 90 0 0) [.ref o0, .int x1] S qq.1 qq.2 := by
  refine K_body (Qc := QI D cy S qq.2 qq.1) (by decide) (Nat.le_of_ble_eq_true rfl) ?_
  intro p e s m below meth c A ls args E hr hlk hnm hA F hw hl
  have hx := E.1
  have hb := E.2.1
  have hl : lv_has ls 4 [(0, .ref o0), (1, .int x1)] := hl
  have hg : Gr S S := Gr.rf
  replace h : (f_X11_count o0 x1 S).bind some = some qq := by rw [h]; rfl
  have L96 : ∀ (o0 : Nat) (n : Nat) (x2 : Int32) (x3 : Int32) (S1 : PS) (o : (Int32 × PS) ⊕ (Int32 × PS)), loopN (fun a => f_X11_count_b96 o0 a.1 a.2.1 a.2.2) n (x2, x3, S1) = some o → ∀ (H : Heap) (locs : List Loc) (ls : Array Slot), Wd D cy A s H locs S1 → Gr S S1 → tD S1 o0 11 → lv_has ls 4 [(0, .ref o0), (2, .int x2), (3, .int x3)] → (∀ (e0 : Int32) (S2 : PS), o = .inr (e0, S2) → ∀ (H : Heap) (locs : List Loc) (ls : Array Slot), Wd D cy A s H locs S2 → Gr S1 S2 → lv_has ls 4 [(2, .int e0)] → W p l e (rmK 3 90 0 0) s m args below meth c H locs 0 0 (MQ below (QI D cy S qq.2 qq.1 s.heap.size) args s 0 0 A) (F0 m 119 ls [])) → (∀ q9, o = .inl q9 → q9 = qq) → W p l e (rmK 3 90 0 0) s m args below meth c H locs 0 0 (MQ below (QI D cy S qq.2 qq.1 s.heap.size) args s 0 0 A) (F0 m 96 ls []) := by
    intro o0 n
    induction n with
    | zero => intro x2 x3 S1 o h; exact absurd h (by simp [loopN])
    | succ n ih =>
      intro x2 x3 S1 o h H locs ls hw hG0 t_o0 hl hx2 hq2
      have hg : Gr S1 S1 := Gr.rf
      replace h : (f_X11_count_b96 o0 x2 x3 S1).bind (Sum.elim (loopN (fun a => f_X11_count_b96 o0 a.1 a.2.1 a.2.2) n) some) = some o := h
      rw [f_X11_count_b96] at h
      refine lv_iload_n hx hb dX11_count_96 rfl (lv_at hl 2 rfl) ?_
      refine lv_aload_n hx hb dX11_count_97 rfl (lv_at hl 0 rfl) ?_
      obtain ⟨q9, h_q9, h⟩ := bb h
      refine z_VI E F hw [] (k_X11_things l D cy kc o0 S1 h_q9 t_o0) t_o0 cf11 mk_X11_things vk_X11_things ml_X11_314 ⟨by decide, by decide⟩ rfl hl.1 rfl (Nat.le_of_ble_eq_true rfl) dX11_count_98 ⟨Nat.zero_le _, Nat.zero_le _⟩ (fun H locs hw hG => ?_)
      have t_o0 := hG.t t_o0
      have hg := hg.tr hG
      refine lv_icmp_ge (tgt := 119) hx hb dX11_count_101 (by decide) (fun c11 => ?_) (fun c11 => ?_)
      · rw [if_pos c11] at h
        obtain rfl := Option.some.inj h
        exact hx2 x2 q9.2 rfl _ _ _ hw hg (lv_sub hl [1] rfl)
      · rw [if_neg c11] at h
        refine lv_iload_n hx hb dX11_count_104 rfl (lv_at hl 1 rfl) ?_
        refine lv_aload_n hx hb dX11_count_105 rfl (lv_at hl 0 rfl) ?_
        refine lv_iload_n hx hb dX11_count_106 rfl (lv_at hl 2 rfl) ?_
        refine lv_iconst (v := 0) hx hb dX11_count_107 (by decide) ?_
        obtain ⟨q10, h_q10, h⟩ := bb h
        refine z_VI E F hw [.int x3, .int (0 : Int32)] (k_X11_thingOf l D cy kc o0 x3 (0 : Int32) q9.2 h_q10 t_o0) t_o0 cf11 mk_X11_thingOf vk_X11_thingOf ml_X11_320 ⟨by decide, by decide⟩ rfl hl.1 rfl (Nat.le_of_ble_eq_true rfl) dX11_count_108 ⟨Nat.zero_le _, Nat.zero_le _⟩ (fun H locs hw hG => ?_)
        have t_o0 := hG.t t_o0
        have hg := hg.tr hG
        refine lv_imul hx hb dX11_count_111 ?_
        refine lv_istore_n (lv' := [(2, .int (x2 * q10.1)), (0, .ref o0), (3, .int x3)]) hx hb dX11_count_112 rfl hl (by decide) rfl (fun ls hl => ?_)
        refine lv_iinc (v := x3 + 1) (lv' := [(3, .int (x3 + 1)), (2, .int (x2 * q10.1)), (0, .ref o0)]) hx hb dX11_count_113 hl (k := 2) rfl rfl (by decide) rfl (fun ls hl => ?_)
        refine lv_goto (tgt := 96) hx hb dX11_count_116 (by decide) ?_
        exact ih (x2 * q10.1) (x3 + 1) q10.2 _ h _ _ _ hw (hG0.tr hg) t_o0 (lv_sub hl [2, 1, 0] rfl) (fun e0 S2 he H locs ls hw hG hl => hx2 e0 S2 he H locs ls hw (hg.tr hG) hl) hq2
  have L136 : ∀ (o0 : Nat) (n : Nat) (x2 : Int32) (x3 : Int32) (S1 : PS) (o : (Int32 × PS) ⊕ (Int32 × PS)), loopN (fun a => f_X11_count_b136 o0 a.1 a.2.1 a.2.2) n (x2, x3, S1) = some o → ∀ (H : Heap) (locs : List Loc) (ls : Array Slot), Wd D cy A s H locs S1 → Gr S S1 → tD S1 o0 11 → lv_has ls 4 [(0, .ref o0), (2, .int x2), (3, .int x3)] → (∀ (e0 : Int32) (S2 : PS), o = .inr (e0, S2) → ∀ (H : Heap) (locs : List Loc) (ls : Array Slot), Wd D cy A s H locs S2 → Gr S1 S2 → lv_has ls 4 [(2, .int e0)] → W p l e (rmK 3 90 0 0) s m args below meth c H locs 0 0 (MQ below (QI D cy S qq.2 qq.1 s.heap.size) args s 0 0 A) (F0 m 168 ls [])) → (∀ q9, o = .inl q9 → q9 = qq) → W p l e (rmK 3 90 0 0) s m args below meth c H locs 0 0 (MQ below (QI D cy S qq.2 qq.1 s.heap.size) args s 0 0 A) (F0 m 136 ls []) := by
    intro o0 n
    induction n with
    | zero => intro x2 x3 S1 o h; exact absurd h (by simp [loopN])
    | succ n ih =>
      intro x2 x3 S1 o h H locs ls hw hG0 t_o0 hl hx2 hq2
      have hg : Gr S1 S1 := Gr.rf
      replace h : (f_X11_count_b136 o0 x2 x3 S1).bind (Sum.elim (loopN (fun a => f_X11_count_b136 o0 a.1 a.2.1 a.2.2) n) some) = some o := h
      have J160 : ∀ (z3 : Int32) (y0 : Int32) (y1 : Int32) (S3 : PS) (H : Heap) (locs : List Loc) (ls : Array Slot), (f_X11_count_160b136 o0 z3 y0 y1 S3).bind (Sum.elim (loopN (fun a => f_X11_count_b136 o0 a.1 a.2.1 a.2.2) n) some) = some o → Wd D cy A s H locs S3 → Gr S1 S3 → tD S3 o0 11 → lv_has ls 4 [(0, .ref o0), (3, .int z3)] → W p l e (rmK 3 90 0 0) s m args below meth c H locs 0 0 (MQ below (QI D cy S qq.2 qq.1 s.heap.size) args s 0 0 A) (F0 m 160 ls [.int y1, .int y0]) := by
        intro z3 y0 y1 S3 H locs ls h hw hg t_o0 hl
        rw [f_X11_count_160b136] at h
        refine lv_iadd hx hb dX11_count_160 ?_
        refine lv_istore_n (lv' := [(2, .int (y0 + y1)), (0, .ref o0), (3, .int z3)]) hx hb dX11_count_161 rfl hl (by decide) rfl (fun ls hl => ?_)
        refine lv_iinc (v := z3 + 1) (lv' := [(3, .int (z3 + 1)), (2, .int (y0 + y1)), (0, .ref o0)]) hx hb dX11_count_162 hl (k := 2) rfl rfl (by decide) rfl (fun ls hl => ?_)
        refine lv_goto (tgt := 136) hx hb dX11_count_165 (by decide) ?_
        exact ih (y0 + y1) (z3 + 1) S3 _ h _ _ _ hw (hG0.tr hg) t_o0 (lv_sub hl [2, 1, 0] rfl) (fun e0 S2 he H locs ls hw hG hl => hx2 e0 S2 he H locs ls hw (hg.tr hG) hl) hq2
      rw [f_X11_count_b136] at h
      refine lv_iload_n hx hb dX11_count_136 rfl (lv_at hl 2 rfl) ?_
      refine lv_bipush (v := 16) hx hb dX11_count_137 (by decide) ?_
      refine lv_icmp_ge (tgt := 168) hx hb dX11_count_139 (by decide) (fun c22 => ?_) (fun c22 => ?_)
      · rw [if_pos c22] at h
        obtain rfl := Option.some.inj h
        exact hx2 x2 S1 rfl _ _ _ hw hg (lv_sub hl [1] rfl)
      · rw [if_neg c22] at h
        refine lv_iload_n hx hb dX11_count_142 rfl (lv_at hl 1 rfl) ?_
        refine lv_aload_n hx hb dX11_count_143 rfl (lv_at hl 0 rfl) ?_
        obtain ⟨b19, r_b19, h⟩ := bb h
        obtain ⟨r_b19, t_b19⟩ := rk_some r_b19
        refine g_R E F hw t_o0 cf11 fk_X11_73 dX11_count_144 rfl r_b19 ?_
        refine lv_bipush (v := 29) hx hb dX11_count_147 (by decide) ?_
        refine lv_iload_n hx hb dX11_count_149 rfl (lv_at hl 2 rfl) ?_
        refine lv_iadd hx hb dX11_count_150 ?_
        obtain ⟨c20, h⟩ := bg h
        refine a_i E F hw t_b19 c20 dX11_count_151 ?_
        refine lv_if_le (tgt := 159) hx hb dX11_count_152 (by decide) (fun c21 => ?_) (fun c21 => ?_)
        · rw [if_pos c21] at h
          refine lv_iconst (v := 0) hx hb dX11_count_159 (by decide) ?_
          exact J160 x3 x2 (0 : Int32) S1 _ _ _ h hw hg t_o0 (lv_sub hl [0, 2] rfl)
        · rw [if_neg c21] at h
          refine lv_iconst (v := 1) hx hb dX11_count_155 (by decide) ?_
          refine lv_goto (tgt := 160) hx hb dX11_count_156 (by decide) ?_
          exact J160 x3 x2 (1 : Int32) S1 _ _ _ h hw hg t_o0 (lv_sub hl [0, 2] rfl)
  have L172 : ∀ (o0 : Nat) (n : Nat) (x2 : Int32) (x3 : Int32) (S1 : PS) (o : (Int32 × PS) ⊕ (Int32 × PS)), loopN (fun a => f_X11_count_b172 o0 a.1 a.2.1 a.2.2) n (x2, x3, S1) = some o → ∀ (H : Heap) (locs : List Loc) (ls : Array Slot), Wd D cy A s H locs S1 → Gr S S1 → tD S1 o0 11 → lv_has ls 4 [(0, .ref o0), (2, .int x2), (3, .int x3)] → (∀ (e0 : Int32) (S2 : PS), o = .inr (e0, S2) → ∀ (H : Heap) (locs : List Loc) (ls : Array Slot), Wd D cy A s H locs S2 → Gr S1 S2 → lv_has ls 4 [(2, .int e0)] → W p l e (rmK 3 90 0 0) s m args below meth c H locs 0 0 (MQ below (QI D cy S qq.2 qq.1 s.heap.size) args s 0 0 A) (F0 m 204 ls [])) → (∀ q9, o = .inl q9 → q9 = qq) → W p l e (rmK 3 90 0 0) s m args below meth c H locs 0 0 (MQ below (QI D cy S qq.2 qq.1 s.heap.size) args s 0 0 A) (F0 m 172 ls []) := by
    intro o0 n
    induction n with
    | zero => intro x2 x3 S1 o h; exact absurd h (by simp [loopN])
    | succ n ih =>
      intro x2 x3 S1 o h H locs ls hw hG0 t_o0 hl hx2 hq2
      have hg : Gr S1 S1 := Gr.rf
      replace h : (f_X11_count_b172 o0 x2 x3 S1).bind (Sum.elim (loopN (fun a => f_X11_count_b172 o0 a.1 a.2.1 a.2.2) n) some) = some o := h
      have J196 : ∀ (z3 : Int32) (y0 : Int32) (y1 : Int32) (S3 : PS) (H : Heap) (locs : List Loc) (ls : Array Slot), (f_X11_count_196b172 o0 z3 y0 y1 S3).bind (Sum.elim (loopN (fun a => f_X11_count_b172 o0 a.1 a.2.1 a.2.2) n) some) = some o → Wd D cy A s H locs S3 → Gr S1 S3 → tD S3 o0 11 → lv_has ls 4 [(0, .ref o0), (3, .int z3)] → W p l e (rmK 3 90 0 0) s m args below meth c H locs 0 0 (MQ below (QI D cy S qq.2 qq.1 s.heap.size) args s 0 0 A) (F0 m 196 ls [.int y1, .int y0]) := by
        intro z3 y0 y1 S3 H locs ls h hw hg t_o0 hl
        rw [f_X11_count_196b172] at h
        refine lv_iadd hx hb dX11_count_196 ?_
        refine lv_istore_n (lv' := [(2, .int (y0 + y1)), (0, .ref o0), (3, .int z3)]) hx hb dX11_count_197 rfl hl (by decide) rfl (fun ls hl => ?_)
        refine lv_iinc (v := z3 + 1) (lv' := [(3, .int (z3 + 1)), (2, .int (y0 + y1)), (0, .ref o0)]) hx hb dX11_count_198 hl (k := 2) rfl rfl (by decide) rfl (fun ls hl => ?_)
        refine lv_goto (tgt := 172) hx hb dX11_count_201 (by decide) ?_
        exact ih (y0 + y1) (z3 + 1) S3 _ h _ _ _ hw (hG0.tr hg) t_o0 (lv_sub hl [2, 1, 0] rfl) (fun e0 S2 he H locs ls hw hG hl => hx2 e0 S2 he H locs ls hw (hg.tr hG) hl) hq2
      rw [f_X11_count_b172] at h
      refine lv_iload_n hx hb dX11_count_172 rfl (lv_at hl 2 rfl) ?_
      refine lv_bipush (v := 16) hx hb dX11_count_173 (by decide) ?_
      refine lv_icmp_ge (tgt := 204) hx hb dX11_count_175 (by decide) (fun c28 => ?_) (fun c28 => ?_)
      · rw [if_pos c28] at h
        obtain rfl := Option.some.inj h
        exact hx2 x2 S1 rfl _ _ _ hw hg (lv_sub hl [1] rfl)
      · rw [if_neg c28] at h
        refine lv_iload_n hx hb dX11_count_178 rfl (lv_at hl 1 rfl) ?_
        refine lv_aload_n hx hb dX11_count_179 rfl (lv_at hl 0 rfl) ?_
        obtain ⟨b25, r_b25, h⟩ := bb h
        obtain ⟨r_b25, t_b25⟩ := rk_some r_b25
        refine g_R E F hw t_o0 cf11 fk_X11_73 dX11_count_180 rfl r_b25 ?_
        refine lv_bipush (v := 61) hx hb dX11_count_183 (by decide) ?_
        refine lv_iload_n hx hb dX11_count_185 rfl (lv_at hl 2 rfl) ?_
        refine lv_iadd hx hb dX11_count_186 ?_
        obtain ⟨c26, h⟩ := bg h
        refine a_i E F hw t_b25 c26 dX11_count_187 ?_
        refine lv_if_le (tgt := 195) hx hb dX11_count_188 (by decide) (fun c27 => ?_) (fun c27 => ?_)
        · rw [if_pos c27] at h
          refine lv_iconst (v := 0) hx hb dX11_count_195 (by decide) ?_
          exact J196 x3 x2 (0 : Int32) S1 _ _ _ h hw hg t_o0 (lv_sub hl [0, 2] rfl)
        · rw [if_neg c27] at h
          refine lv_iconst (v := 1) hx hb dX11_count_191 (by decide) ?_
          refine lv_goto (tgt := 196) hx hb dX11_count_192 (by decide) ?_
          exact J196 x3 x2 (1 : Int32) S1 _ _ _ h hw hg t_o0 (lv_sub hl [0, 2] rfl)
  have L208 : ∀ (o0 : Nat) (n : Nat) (x2 : Int32) (x3 : Int32) (S1 : PS) (o : (Int32 × PS) ⊕ (Int32 × PS)), loopN (fun a => f_X11_count_b208 o0 a.1 a.2.1 a.2.2) n (x2, x3, S1) = some o → ∀ (H : Heap) (locs : List Loc) (ls : Array Slot), Wd D cy A s H locs S1 → Gr S S1 → tD S1 o0 11 → lv_has ls 4 [(0, .ref o0), (2, .int x2), (3, .int x3)] → (∀ (e0 : Int32) (S2 : PS), o = .inr (e0, S2) → ∀ (H : Heap) (locs : List Loc) (ls : Array Slot), Wd D cy A s H locs S2 → Gr S1 S2 → lv_has ls 4 [(2, .int e0)] → W p l e (rmK 3 90 0 0) s m args below meth c H locs 0 0 (MQ below (QI D cy S qq.2 qq.1 s.heap.size) args s 0 0 A) (F0 m 240 ls [])) → (∀ q9, o = .inl q9 → q9 = qq) → W p l e (rmK 3 90 0 0) s m args below meth c H locs 0 0 (MQ below (QI D cy S qq.2 qq.1 s.heap.size) args s 0 0 A) (F0 m 208 ls []) := by
    intro o0 n
    induction n with
    | zero => intro x2 x3 S1 o h; exact absurd h (by simp [loopN])
    | succ n ih =>
      intro x2 x3 S1 o h H locs ls hw hG0 t_o0 hl hx2 hq2
      have hg : Gr S1 S1 := Gr.rf
      replace h : (f_X11_count_b208 o0 x2 x3 S1).bind (Sum.elim (loopN (fun a => f_X11_count_b208 o0 a.1 a.2.1 a.2.2) n) some) = some o := h
      have J232 : ∀ (z3 : Int32) (y0 : Int32) (y1 : Int32) (S3 : PS) (H : Heap) (locs : List Loc) (ls : Array Slot), (f_X11_count_232b208 o0 z3 y0 y1 S3).bind (Sum.elim (loopN (fun a => f_X11_count_b208 o0 a.1 a.2.1 a.2.2) n) some) = some o → Wd D cy A s H locs S3 → Gr S1 S3 → tD S3 o0 11 → lv_has ls 4 [(0, .ref o0), (3, .int z3)] → W p l e (rmK 3 90 0 0) s m args below meth c H locs 0 0 (MQ below (QI D cy S qq.2 qq.1 s.heap.size) args s 0 0 A) (F0 m 232 ls [.int y1, .int y0]) := by
        intro z3 y0 y1 S3 H locs ls h hw hg t_o0 hl
        rw [f_X11_count_232b208] at h
        refine lv_iadd hx hb dX11_count_232 ?_
        refine lv_istore_n (lv' := [(2, .int (y0 + y1)), (0, .ref o0), (3, .int z3)]) hx hb dX11_count_233 rfl hl (by decide) rfl (fun ls hl => ?_)
        refine lv_iinc (v := z3 + 1) (lv' := [(3, .int (z3 + 1)), (2, .int (y0 + y1)), (0, .ref o0)]) hx hb dX11_count_234 hl (k := 2) rfl rfl (by decide) rfl (fun ls hl => ?_)
        refine lv_goto (tgt := 208) hx hb dX11_count_237 (by decide) ?_
        exact ih (y0 + y1) (z3 + 1) S3 _ h _ _ _ hw (hG0.tr hg) t_o0 (lv_sub hl [2, 1, 0] rfl) (fun e0 S2 he H locs ls hw hG hl => hx2 e0 S2 he H locs ls hw (hg.tr hG) hl) hq2
      rw [f_X11_count_b208] at h
      refine lv_iload_n hx hb dX11_count_208 rfl (lv_at hl 2 rfl) ?_
      refine lv_bipush (v := 16) hx hb dX11_count_209 (by decide) ?_
      refine lv_icmp_ge (tgt := 240) hx hb dX11_count_211 (by decide) (fun c34 => ?_) (fun c34 => ?_)
      · rw [if_pos c34] at h
        obtain rfl := Option.some.inj h
        exact hx2 x2 S1 rfl _ _ _ hw hg (lv_sub hl [1] rfl)
      · rw [if_neg c34] at h
        refine lv_iload_n hx hb dX11_count_214 rfl (lv_at hl 1 rfl) ?_
        refine lv_aload_n hx hb dX11_count_215 rfl (lv_at hl 0 rfl) ?_
        obtain ⟨b31, r_b31, h⟩ := bb h
        obtain ⟨r_b31, t_b31⟩ := rk_some r_b31
        refine g_R E F hw t_o0 cf11 fk_X11_73 dX11_count_216 rfl r_b31 ?_
        refine lv_bipush (v := 45) hx hb dX11_count_219 (by decide) ?_
        refine lv_iload_n hx hb dX11_count_221 rfl (lv_at hl 2 rfl) ?_
        refine lv_iadd hx hb dX11_count_222 ?_
        obtain ⟨c32, h⟩ := bg h
        refine a_i E F hw t_b31 c32 dX11_count_223 ?_
        refine lv_if_le (tgt := 231) hx hb dX11_count_224 (by decide) (fun c33 => ?_) (fun c33 => ?_)
        · rw [if_pos c33] at h
          refine lv_iconst (v := 0) hx hb dX11_count_231 (by decide) ?_
          exact J232 x3 x2 (0 : Int32) S1 _ _ _ h hw hg t_o0 (lv_sub hl [0, 2] rfl)
        · rw [if_neg c33] at h
          refine lv_iconst (v := 1) hx hb dX11_count_227 (by decide) ?_
          refine lv_goto (tgt := 232) hx hb dX11_count_228 (by decide) ?_
          exact J232 x3 x2 (1 : Int32) S1 _ _ _ h hw hg t_o0 (lv_sub hl [0, 2] rfl)
  have J119 : ∀ (z2 : Int32) (S3 : PS) (H : Heap) (locs : List Loc) (ls : Array Slot), (f_X11_count_119 z2 S3).bind some = some qq → Wd D cy A s H locs S3 → Gr S S3 → lv_has ls 4 [(2, .int z2)] → W p l e (rmK 3 90 0 0) s m args below meth c H locs 0 0 (MQ below (QI D cy S qq.2 qq.1 s.heap.size) args s 0 0 A) (F0 m 119 ls []) := by
    intro z2 S3 H locs ls h hw hg  hl
    rw [f_X11_count_119] at h
    refine lv_iload_n hx hb dX11_count_119 rfl (lv_at hl 0 rfl) ?_
    obtain rfl := Option.some.inj h
    exact r_I E hr hlk F hA hw hg dX11_count_120
  have J168 : ∀ (z2 : Int32) (S3 : PS) (H : Heap) (locs : List Loc) (ls : Array Slot), (f_X11_count_168 z2 S3).bind some = some qq → Wd D cy A s H locs S3 → Gr S S3 → lv_has ls 4 [(2, .int z2)] → W p l e (rmK 3 90 0 0) s m args below meth c H locs 0 0 (MQ below (QI D cy S qq.2 qq.1 s.heap.size) args s 0 0 A) (F0 m 168 ls []) := by
    intro z2 S3 H locs ls h hw hg  hl
    rw [f_X11_count_168] at h
    refine lv_iload_n hx hb dX11_count_168 rfl (lv_at hl 0 rfl) ?_
    obtain rfl := Option.some.inj h
    exact r_I E hr hlk F hA hw hg dX11_count_169
  have J204 : ∀ (z2 : Int32) (S3 : PS) (H : Heap) (locs : List Loc) (ls : Array Slot), (f_X11_count_204 z2 S3).bind some = some qq → Wd D cy A s H locs S3 → Gr S S3 → lv_has ls 4 [(2, .int z2)] → W p l e (rmK 3 90 0 0) s m args below meth c H locs 0 0 (MQ below (QI D cy S qq.2 qq.1 s.heap.size) args s 0 0 A) (F0 m 204 ls []) := by
    intro z2 S3 H locs ls h hw hg  hl
    rw [f_X11_count_204] at h
    refine lv_iload_n hx hb dX11_count_204 rfl (lv_at hl 0 rfl) ?_
    obtain rfl := Option.some.inj h
    exact r_I E hr hlk F hA hw hg dX11_count_205
  have J240 : ∀ (z2 : Int32) (S3 : PS) (H : Heap) (locs : List Loc) (ls : Array Slot), (f_X11_count_240 z2 S3).bind some = some qq → Wd D cy A s H locs S3 → Gr S S3 → lv_has ls 4 [(2, .int z2)] → W p l e (rmK 3 90 0 0) s m args below meth c H locs 0 0 (MQ below (QI D cy S qq.2 qq.1 s.heap.size) args s 0 0 A) (F0 m 240 ls []) := by
    intro z2 S3 H locs ls h hw hg  hl
    rw [f_X11_count_240] at h
    refine lv_iload_n hx hb dX11_count_240 rfl (lv_at hl 0 rfl) ?_
    obtain rfl := Option.some.inj h
    exact r_I E hr hlk F hA hw hg dX11_count_241
  rw [f_X11_count] at h
  refine lv_aload_n hx hb dX11_count_0 rfl (lv_at hl 0 rfl) ?_
  refine lv_iconst (v := 0) hx hb dX11_count_1 (by decide) ?_
  refine p_I E F hw t_o0 cf11 fk_X11_1 rfl rfl rfl dX11_count_2 rfl (fun H locs hw => ?_)
  refine lv_iconst (v := 0) hx hb dX11_count_5 (by decide) ?_
  refine lv_istore_n (lv' := [(2, .int (0 : Int32)), (0, .ref o0), (1, .int x1)]) hx hb dX11_count_6 rfl hl (by decide) rfl (fun ls hl => ?_)
  refine lv_iload_n hx hb dX11_count_7 rfl (lv_at hl 2 rfl) ?_
  by_cases c2 : x1 = 0
  · rw [if_pos c2] at h
    refine lv_tableIn (tgt := 72) hx hb dX11_count_8 (by rw [c2]; decide) (by rw [c2]; decide) (by rw [c2]; rfl) (by decide) ?_
    refine lv_aload_n hx hb dX11_count_72 rfl (lv_at hl 1 rfl) ?_
    obtain ⟨q1, h_q1, h⟩ := bb h
    refine z_VI E F hw [] (k_X11_things l D cy kc o0 (pI S o0 0 (0 : Int32)) h_q1 t_o0) t_o0 cf11 mk_X11_things vk_X11_things ml_X11_314 ⟨by decide, by decide⟩ rfl hl.1 rfl (Nat.le_of_ble_eq_true rfl) dX11_count_73 ⟨Nat.zero_le _, Nat.zero_le _⟩ (fun H locs hw hG => ?_)
    have t_o0 := hG.t t_o0
    have hg := hg.tr hG
    obtain rfl := Option.some.inj h
    exact r_I E hr hlk F hA hw hg dX11_count_76
  rw [if_neg c2] at h
  by_cases c4 : x1 = 1
  · rw [if_pos c4] at h
    refine lv_tableIn (tgt := 77) hx hb dX11_count_8 (by rw [c4]; decide) (by rw [c4]; decide) (by rw [c4]; rfl) (by decide) ?_
    refine lv_aload_n hx hb dX11_count_77 rfl (lv_at hl 1 rfl) ?_
    obtain ⟨q3, h_q3, h⟩ := bb h
    refine z_VI E F hw [] (k_X11_sorts l D cy kc o0 (pI S o0 0 (0 : Int32)) h_q3 t_o0) t_o0 cf11 mk_X11_sorts vk_X11_sorts ml_X11_323 ⟨by decide, by decide⟩ rfl hl.1 rfl (Nat.le_of_ble_eq_true rfl) dX11_count_78 ⟨Nat.zero_le _, Nat.zero_le _⟩ (fun H locs hw hG => ?_)
    have t_o0 := hG.t t_o0
    have hg := hg.tr hG
    obtain rfl := Option.some.inj h
    exact r_I E hr hlk F hA hw hg dX11_count_81
  rw [if_neg c4] at h
  by_cases c6 : x1 = 2
  · rw [if_pos c6] at h
    refine lv_tableIn (tgt := 82) hx hb dX11_count_8 (by rw [c6]; decide) (by rw [c6]; decide) (by rw [c6]; rfl) (by decide) ?_
    refine lv_aload_n hx hb dX11_count_82 rfl (lv_at hl 1 rfl) ?_
    obtain ⟨q5, h_q5, h⟩ := bb h
    refine z_VI E F hw [] (k_X11_springs l D cy kc o0 (pI S o0 0 (0 : Int32)) h_q5 t_o0) t_o0 cf11 mk_X11_springs vk_X11_springs ml_X11_326 ⟨by decide, by decide⟩ rfl hl.1 rfl (Nat.le_of_ble_eq_true rfl) dX11_count_83 ⟨Nat.zero_le _, Nat.zero_le _⟩ (fun H locs hw hG => ?_)
    have t_o0 := hG.t t_o0
    have hg := hg.tr hG
    obtain rfl := Option.some.inj h
    exact r_I E hr hlk F hA hw hg dX11_count_86
  rw [if_neg c6] at h
  by_cases c8 : x1 = 3
  · rw [if_pos c8] at h
    refine lv_tableIn (tgt := 87) hx hb dX11_count_8 (by rw [c8]; decide) (by rw [c8]; decide) (by rw [c8]; rfl) (by decide) ?_
    refine lv_aload_n hx hb dX11_count_87 rfl (lv_at hl 1 rfl) ?_
    obtain ⟨q7, h_q7, h⟩ := bb h
    refine z_VI E F hw [] (k_X11_life l D cy kc o0 (pI S o0 0 (0 : Int32)) h_q7 t_o0) t_o0 cf11 mk_X11_life vk_X11_life ml_X11_365 ⟨by decide, by decide⟩ rfl hl.1 rfl (Nat.le_of_ble_eq_true rfl) dX11_count_88 ⟨Nat.zero_le _, Nat.zero_le _⟩ (fun H locs hw hG => ?_)
    have t_o0 := hG.t t_o0
    have hg := hg.tr hG
    obtain rfl := Option.some.inj h
    exact r_I E hr hlk F hA hw hg dX11_count_91
  rw [if_neg c8] at h
  by_cases c13 : x1 = 4
  · rw [if_pos c13] at h
    refine lv_tableIn (tgt := 92) hx hb dX11_count_8 (by rw [c13]; decide) (by rw [c13]; decide) (by rw [c13]; rfl) (by decide) ?_
    refine lv_iconst (v := 1) hx hb dX11_count_92 (by decide) ?_
    refine lv_istore_n (lv' := [(2, .int (1 : Int32)), (0, .ref o0), (1, .int x1)]) hx hb dX11_count_93 rfl hl (by decide) rfl (fun ls hl => ?_)
    refine lv_iconst (v := 0) hx hb dX11_count_94 (by decide) ?_
    refine lv_istore_n (lv' := [(3, .int (0 : Int32)), (2, .int (1 : Int32)), (0, .ref o0), (1, .int x1)]) hx hb dX11_count_95 rfl hl (by decide) rfl (fun ls hl => ?_)
    obtain ⟨y12, hy12, h⟩ := bb h
    refine L96 o0 fu (1 : Int32) (0 : Int32) (pI S o0 0 (0 : Int32)) y12 hy12 _ _ _ hw (hg) t_o0 (lv_sub hl [2, 1, 0] rfl) (fun e0 S2 he H locs ls hw hG hl => ?_) (fun r he => ?_)
    · subst he
      have hg := hg.tr hG
      exact J119 e0 S2 _ _ _ h hw hg  (lv_sub hl [0] rfl)
    · subst he
      exact Option.some.inj h
  rw [if_neg c13] at h
  by_cases c15 : x1 = 5
  · rw [if_pos c15] at h
    refine lv_tableIn (tgt := 121) hx hb dX11_count_8 (by rw [c15]; decide) (by rw [c15]; decide) (by rw [c15]; rfl) (by decide) ?_
    refine lv_aload_n hx hb dX11_count_121 rfl (lv_at hl 1 rfl) ?_
    obtain ⟨q14, h_q14, h⟩ := bb h
    refine z_VI E F hw [] (k_X11_startOf l D cy kc o0 (pI S o0 0 (0 : Int32)) h_q14 t_o0) t_o0 cf11 mk_X11_startOf vk_X11_startOf ml_X11_453 ⟨by decide, by decide⟩ rfl hl.1 rfl (Nat.le_of_ble_eq_true rfl) dX11_count_122 ⟨Nat.zero_le _, Nat.zero_le _⟩ (fun H locs hw hG => ?_)
    have t_o0 := hG.t t_o0
    have hg := hg.tr hG
    obtain rfl := Option.some.inj h
    exact r_I E hr hlk F hA hw hg dX11_count_125
  rw [if_neg c15] at h
  by_cases c18 : x1 = 6
  · rw [if_pos c18] at h
    refine lv_tableIn (tgt := 126) hx hb dX11_count_8 (by rw [c18]; decide) (by rw [c18]; decide) (by rw [c18]; rfl) (by decide) ?_
    refine lv_aload_n hx hb dX11_count_126 rfl (lv_at hl 1 rfl) ?_
    obtain ⟨b16, r_b16, h⟩ := bb h
    obtain ⟨r_b16, t_b16⟩ := rk_some r_b16
    refine g_R E F hw t_o0 cf11 fk_X11_73 dX11_count_127 rfl r_b16 ?_
    refine lv_bipush (v := 22) hx hb dX11_count_130 (by decide) ?_
    obtain ⟨c17, h⟩ := bg h
    refine a_i E F hw t_b16 c17 dX11_count_132 ?_
    obtain rfl := Option.some.inj h
    exact r_I E hr hlk F hA hw hg dX11_count_133
  rw [if_neg c18] at h
  by_cases c24 : x1 = 7
  · rw [if_pos c24] at h
    refine lv_tableIn (tgt := 134) hx hb dX11_count_8 (by rw [c24]; decide) (by rw [c24]; decide) (by rw [c24]; rfl) (by decide) ?_
    refine lv_iconst (v := 0) hx hb dX11_count_134 (by decide) ?_
    refine lv_istore_n (lv' := [(3, .int (0 : Int32)), (2, .int (0 : Int32)), (0, .ref o0), (1, .int x1)]) hx hb dX11_count_135 rfl hl (by decide) rfl (fun ls hl => ?_)
    obtain ⟨y23, hy23, h⟩ := bb h
    refine L136 o0 fu (0 : Int32) (0 : Int32) (pI S o0 0 (0 : Int32)) y23 hy23 _ _ _ hw (hg) t_o0 (lv_sub hl [2, 1, 0] rfl) (fun e0 S2 he H locs ls hw hG hl => ?_) (fun r he => ?_)
    · subst he
      have hg := hg.tr hG
      exact J168 e0 S2 _ _ _ h hw hg  (lv_sub hl [0] rfl)
    · subst he
      exact Option.some.inj h
  rw [if_neg c24] at h
  by_cases c30 : x1 = 8
  · rw [if_pos c30] at h
    refine lv_tableIn (tgt := 170) hx hb dX11_count_8 (by rw [c30]; decide) (by rw [c30]; decide) (by rw [c30]; rfl) (by decide) ?_
    refine lv_iconst (v := 0) hx hb dX11_count_170 (by decide) ?_
    refine lv_istore_n (lv' := [(3, .int (0 : Int32)), (2, .int (0 : Int32)), (0, .ref o0), (1, .int x1)]) hx hb dX11_count_171 rfl hl (by decide) rfl (fun ls hl => ?_)
    obtain ⟨y29, hy29, h⟩ := bb h
    refine L172 o0 fu (0 : Int32) (0 : Int32) (pI S o0 0 (0 : Int32)) y29 hy29 _ _ _ hw (hg) t_o0 (lv_sub hl [2, 1, 0] rfl) (fun e0 S2 he H locs ls hw hG hl => ?_) (fun r he => ?_)
    · subst he
      have hg := hg.tr hG
      exact J204 e0 S2 _ _ _ h hw hg  (lv_sub hl [0] rfl)
    · subst he
      exact Option.some.inj h
  rw [if_neg c30] at h
  by_cases c36 : x1 = 9
  · rw [if_pos c36] at h
    refine lv_tableIn (tgt := 206) hx hb dX11_count_8 (by rw [c36]; decide) (by rw [c36]; decide) (by rw [c36]; rfl) (by decide) ?_
    refine lv_iconst (v := 0) hx hb dX11_count_206 (by decide) ?_
    refine lv_istore_n (lv' := [(3, .int (0 : Int32)), (2, .int (0 : Int32)), (0, .ref o0), (1, .int x1)]) hx hb dX11_count_207 rfl hl (by decide) rfl (fun ls hl => ?_)
    obtain ⟨y35, hy35, h⟩ := bb h
    refine L208 o0 fu (0 : Int32) (0 : Int32) (pI S o0 0 (0 : Int32)) y35 hy35 _ _ _ hw (hg) t_o0 (lv_sub hl [2, 1, 0] rfl) (fun e0 S2 he H locs ls hw hG hl => ?_) (fun r he => ?_)
    · subst he
      have hg := hg.tr hG
      exact J240 e0 S2 _ _ _ h hw hg  (lv_sub hl [0] rfl)
    · subst he
      exact Option.some.inj h
  rw [if_neg c36] at h
  by_cases c37 : x1 = 10
  · rw [if_pos c37] at h
    refine lv_tableIn (tgt := 242) hx hb dX11_count_8 (by rw [c37]; decide) (by rw [c37]; decide) (by rw [c37]; rfl) (by decide) ?_
    refine lv_aload_n hx hb dX11_count_242 rfl (lv_at hl 1 rfl) ?_
    refine g_f E F hw t_o0 cf11 fk_X11_11 dX11_count_243 rfl ?_
    obtain rfl := Option.some.inj h
    exact r_I E hr hlk F hA hw hg dX11_count_246
  rw [if_neg c37] at h
  by_cases c38 : x1 = 11
  · rw [if_pos c38] at h
    refine lv_tableIn (tgt := 247) hx hb dX11_count_8 (by rw [c38]; decide) (by rw [c38]; decide) (by rw [c38]; rfl) (by decide) ?_
    refine lv_aload_n hx hb dX11_count_247 rfl (lv_at hl 1 rfl) ?_
    refine g_f E F hw t_o0 cf11 fk_X11_234 dX11_count_248 rfl ?_
    obtain rfl := Option.some.inj h
    exact r_I E hr hlk F hA hw hg dX11_count_251
  rw [if_neg c38] at h
  refine lv_tableOut (tgt := 252) hx hb dX11_count_8 (by have n0 := ne_toInt (n := 0) (z := 0) c2 (by decide); have n1 := ne_toInt (n := 1) (z := 1) c4 (by decide); have n2 := ne_toInt (n := 2) (z := 2) c6 (by decide); have n3 := ne_toInt (n := 3) (z := 3) c8 (by decide); have n4 := ne_toInt (n := 4) (z := 4) c13 (by decide); have n5 := ne_toInt (n := 5) (z := 5) c15 (by decide); have n6 := ne_toInt (n := 6) (z := 6) c18 (by decide); have n7 := ne_toInt (n := 7) (z := 7) c24 (by decide); have n8 := ne_toInt (n := 8) (z := 8) c30 (by decide); have n9 := ne_toInt (n := 9) (z := 9) c36 (by decide); have n10 := ne_toInt (n := 10) (z := 10) c37 (by decide); have n11 := ne_toInt (n := 11) (z := 11) c38 (by decide); omega) (by decide) ?_
  refine lv_iconst (v := (-1)) hx hb dX11_count_252 (by decide) ?_
  obtain rfl := Option.some.inj h
  exact r_I E hr hlk F hA hw hg dX11_count_253
