def f_X10_vow_144b105 (o0 : Nat) (x1 : Int32) (x2 : Int32) (x3 : Int32) (o4 : Nat) (x5 : Int32) (x6 : Int32) (x7 : Int64) (x12 : Int32) (z13 : Int32) (z14 : Int64) (S3 : PS) : Option ((Int64 × Int32 × Int32 × PS) ⊕ ((Int64 × PS) ⊕ (Int64 × Int32 × PS))) :=
  some (.inl (z14, ((x12 * (3 : Int32)) + z13), z13 + 1, S3))
def f_X10_vow_b105 (o0 : Nat) (x1 : Int32) (x2 : Int32) (x3 : Int32) (o4 : Nat) (x5 : Int32) (x6 : Int32) (x7 : Int64) (x12 : Int32) (x9 : Int64) (x11 : Int32) (x13 : Int32) (S1 : PS) : Option ((Int64 × Int32 × Int32 × PS) ⊕ ((Int64 × PS) ⊕ (Int64 × Int32 × PS))) :=
  (rk S1 (sR S1 o4 1) 13).bind fun b17 => if ib x12 (sN S1 b17) = true then (if (sI S1 b17 (Int32.toNatClampNeg x12)) ≤ x13 then some (.inr (.inr (x9, x11, S1))) else (f_X10_hopesUnder o0 x1 x2 x12 x13 S1).bind fun q19 => (if x11 = (-1 : Int32) then f_X10_vow_144b105 o0 x1 x2 x3 o4 x5 x6 x7 x12 x13 q19.1 q19.2 else (if (lg_cmp q19.1 x9) ≤ 0 then some (.inl (x9, x11, x13 + 1, q19.2)) else f_X10_vow_144b105 o0 x1 x2 x3 o4 x5 x6 x7 x12 x13 q19.1 q19.2))) else none
def f_X10_vow_163b92 (o0 : Nat) (x1 : Int32) (x2 : Int32) (x3 : Int32) (o4 : Nat) (x5 : Int32) (x6 : Int32) (x7 : Int64) (z9 : Int64) (z11 : Int32) (z12 : Int32) (S3 : PS) : Option ((Int64 × Int32 × Int32 × PS) ⊕ ((Int64 × PS) ⊕ (Int64 × Int32 × PS))) :=
  some (.inl (z9, z11, z12 + 1, S3))
def f_X10_vow_b92 (o0 : Nat) (x1 : Int32) (x2 : Int32) (x3 : Int32) (o4 : Nat) (x5 : Int32) (x6 : Int32) (x7 : Int64) (x9 : Int64) (x11 : Int32) (x12 : Int32) (S1 : PS) : Option ((Int64 × Int32 × Int32 × PS) ⊕ ((Int64 × PS) ⊕ (Int64 × Int32 × PS))) :=
  (if (sI S1 o4 0) ≤ x12 then some (.inr (.inr (x9, x11, S1))) else (loopN (fun a => f_X10_vow_b105 o0 x1 x2 x3 o4 x5 x6 x7 x12 a.1 a.2.1 a.2.2.1 a.2.2.2) fu (x9, x11, (0 : Int32), S1)).bind (Sum.elim (fun r => some (.inr (.inl r))) (fun a => f_X10_vow_163b92 o0 x1 x2 x3 o4 x5 x6 x7 a.1 a.2.1 x12 a.2.2)))
def f_X10_vow_169 (u0 : Nat) (z1 : Int32) (z3 : Int32) (z5 : Int32) (z6 : Int32) (z7 : Int64) (z9 : Int64) (z11 : Int32) (S3 : PS) : Option (Int64 × PS) :=
  (f_X10_setPledge u0 z1 z5 z6 S3).bind fun q26 => (if z3 = 0 then some ((Int32.toInt64 z11), q26.2) else (f_X10_lowestTerms (z9 - z7) (2176782336 : Int64) (z3 - (1 : Int32)) q26.2).bind fun q27 => some (q27.1, q27.2))
def f_X10_vow_t51 (u0 : Nat) (z1 : Int32) (z2 : Int32) (z3 : Int32) (u4 : Nat) (S3 : PS) : Option (Int64 × PS) :=
  (rk S3 (sR S3 u0 3) 8).bind fun b10 => (rk S3 (sR S3 b10 2) 13).bind fun b11 => if ib z1 (sN S3 b11) = true then (rk S3 (sR S3 u0 3) 8).bind fun b13 => (rk S3 (sR S3 b13 3) 13).bind fun b14 => if ib z1 (sN S3 b14) = true then (f_X10_hopesUnder u0 z1 z2 (-1 : Int32) (0 : Int32) S3).bind fun q16 => (loopN (fun a => f_X10_vow_b92 u0 z1 z2 z3 u4 (sI S3 b11 (Int32.toNatClampNeg z1)) (sI S3 b14 (Int32.toNatClampNeg z1)) q16.1 a.1 a.2.1 a.2.2.1 a.2.2.2) fu ((0 : Int64), (-1 : Int32), (0 : Int32), q16.2)).bind (Sum.elim (fun r => some r) (fun a => f_X10_vow_169 u0 z1 z3 (sI S3 b11 (Int32.toNatClampNeg z1)) (sI S3 b14 (Int32.toNatClampNeg z1)) q16.1 a.1 a.2.1 a.2.2)) else none else none
def g_X10_vow (o0 : Nat) (x1 : Int32) (x2 : Int32) (x3 : Int32) (S : PS) (post : Option Int64 → PS → Prop) : Prop :=
  ∃ b1, (rk S (sR S o0 3) 8) = some b1 ∧ (∃ b2, (rk S (sR S b1 0) 9) = some b2 ∧ (∃ q3, (f_X10_isForeseen o0 x1 S) = some q3 ∧ (((q3.1 = (0 : Int32) → (post none q3.2)) ∧ (¬ q3.1 = (0 : Int32) → (∃ q5, (f_X9_hasSort b2 x2 q3.2) = some q5 ∧ (((q5.1 = (0 : Int32) → (post none q5.2)) ∧ (¬ q5.1 = (0 : Int32) → ((((sI q5.2 b2 0) ≤ (0 : Int32) → (post none q5.2)) ∧ (¬ (sI q5.2 b2 0) ≤ (0 : Int32) → (((x3 < (0 : Int32) → (post none q5.2)) ∧ (¬ x3 < (0 : Int32) → ((((2 : Int32) < x3 → (post none q5.2)) ∧ (¬ (2 : Int32) < x3 → (∃ qq, f_X10_vow_t51 o0 x1 x2 x3 b2 q5.2 = some qq ∧ post (some qq.1) qq.2)))))))))))))))))))
set_option maxHeartbeats 4000000 in
set_option maxRecDepth 100000 in
theorem k_X10_vow (l : Launch) (hst : l.stackTraces = false) (D : va_G) (cy : Nat → ClassId) (kc : Nat → Nat) (o0 : Nat) (x1 : Int32) (x2 : Int32) (x3 : Int32) (S : PS) {post : Option Int64 → PS → Prop} (h : g_X10_vow o0 x1 x2 x3 S post) (t_o0 : tD S o0 10) : XJ l D cy kc yX10_vow cX10_vow 16 (rmK 9 295 1 6) [.ref o0, .int x1, .int x2, .int x3] S post := by
  refine X_body (Qc := fun sz => GJ D cy S (fun r => post (some r)) sz) (XC := fun sz => XX D cy S (post none) sz) (by decide) (Nat.le_of_ble_eq_true rfl) ?_
  intro p e s m below meth c A ls args E hr hlk hnm hA F hw hl hnt
  have hx := E.1
  have hb := E.2.1
  have hl : lv_has ls 16 [(0, .ref o0), (1, .int x1), (2, .int x2), (3, .int x3)] := hl
  have hg : Gr S S := Gr.rf
  have T51 : ∀ (u0 : Nat) (z1 : Int32) (z2 : Int32) (z3 : Int32) (u4 : Nat) (S3 : PS) (qq : Int64 × PS) (H : Heap) (locs : List Loc) (ls : Array Slot), post (some qq.1) qq.2 → (f_X10_vow_t51 u0 z1 z2 z3 u4 S3).bind some = some qq → Wd D cy A s H locs S3 → Gr S S3 → tD S3 u0 10 → tD S3 u4 9 → lv_has ls 16 [(0, .ref u0), (1, .int z1), (2, .int z2), (3, .int z3), (4, .ref u4)] → W p l e (rmK 9 295 1 6) s m args below meth c H locs 1 6 (vx_MQ below (GJ D cy S (fun r => post (some r)) s.heap.size) (XX D cy S (post none) s.heap.size) args s 1 6 A) (F0 m 51 ls []) := by
    intro u0 z1 z2 z3 u4 S3 qq H locs ls hpo h hw hg t_u0 t_u4 hl
    have L105 : ∀ (o0 : Nat) (x1 : Int32) (x2 : Int32) (x3 : Int32) (o4 : Nat) (x5 : Int32) (x6 : Int32) (x7 : Int64) (x12 : Int32) (n : Nat) (x9 : Int64) (x11 : Int32) (x13 : Int32) (S1 : PS) (o : (Int64 × PS) ⊕ (Int64 × Int32 × PS)), loopN (fun a => f_X10_vow_b105 o0 x1 x2 x3 o4 x5 x6 x7 x12 a.1 a.2.1 a.2.2.1 a.2.2.2) n (x9, x11, x13, S1) = some o → ∀ (H : Heap) (locs : List Loc) (ls : Array Slot), Wd D cy A s H locs S1 → Gr S S1 → tD S1 o0 10 → tD S1 o4 9 → lv_has ls 16 [(0, .ref o0), (1, .int x1), (2, .int x2), (3, .int x3), (4, .ref o4), (5, .int x5), (6, .int x6), (7, .long x7), (9, .long x9), (11, .int x11), (12, .int x12), (13, .int x13)] → (∀ (e0 : Int64) (e1 : Int32) (S2 : PS), o = .inr (e0, e1, S2) → ∀ (H : Heap) (locs : List Loc) (ls : Array Slot), Wd D cy A s H locs S2 → Gr S1 S2 → lv_has ls 16 [(0, .ref o0), (1, .int x1), (2, .int x2), (3, .int x3), (4, .ref o4), (5, .int x5), (6, .int x6), (7, .long x7), (9, .long e0), (11, .int e1), (12, .int x12)] → W p l e (rmK 9 295 1 6) s m args below meth c H locs 1 6 (vx_MQ below (GJ D cy S (fun r => post (some r)) s.heap.size) (XX D cy S (post none) s.heap.size) args s 1 6 A) (F0 m 163 ls [])) → (∀ q9, o = .inl q9 → q9 = qq) → W p l e (rmK 9 295 1 6) s m args below meth c H locs 1 6 (vx_MQ below (GJ D cy S (fun r => post (some r)) s.heap.size) (XX D cy S (post none) s.heap.size) args s 1 6 A) (F0 m 105 ls []) := by
      intro o0 x1 x2 x3 o4 x5 x6 x7 x12 n
      induction n with
      | zero => intro x9 x11 x13 S1 o h; exact absurd h (by simp [loopN])
      | succ n ih =>
        intro x9 x11 x13 S1 o h H locs ls hw hG0 t_o0 t_o4 hl hx2 hq2
        have hg : Gr S1 S1 := Gr.rf
        replace h : (f_X10_vow_b105 o0 x1 x2 x3 o4 x5 x6 x7 x12 x9 x11 x13 S1).bind (Sum.elim (loopN (fun a => f_X10_vow_b105 o0 x1 x2 x3 o4 x5 x6 x7 x12 a.1 a.2.1 a.2.2.1 a.2.2.2) n) some) = some o := h
        have J144 : ∀ (z13 : Int32) (z14 : Int64) (S3 : PS) (H : Heap) (locs : List Loc) (ls : Array Slot), (f_X10_vow_144b105 o0 x1 x2 x3 o4 x5 x6 x7 x12 z13 z14 S3).bind (Sum.elim (loopN (fun a => f_X10_vow_b105 o0 x1 x2 x3 o4 x5 x6 x7 x12 a.1 a.2.1 a.2.2.1 a.2.2.2) n) some) = some o → Wd D cy A s H locs S3 → Gr S1 S3 → tD S3 o0 10 → tD S3 o4 9 → lv_has ls 16 [(0, .ref o0), (1, .int x1), (2, .int x2), (3, .int x3), (4, .ref o4), (5, .int x5), (6, .int x6), (7, .long x7), (12, .int x12), (13, .int z13), (14, .long z14)] → W p l e (rmK 9 295 1 6) s m args below meth c H locs 1 6 (vx_MQ below (GJ D cy S (fun r => post (some r)) s.heap.size) (XX D cy S (post none) s.heap.size) args s 1 6 A) (F0 m 144 ls []) := by
          intro z13 z14 S3 H locs ls h hw hg t_o0 t_o4 hl
          rw [f_X10_vow_144b105] at h
          refine lv_lload hx hb dX10_vow_144 (lv_at hl 10 rfl) ?_
          refine lv_lstore (lv' := [(9, .long z14), (0, .ref o0), (1, .int x1), (2, .int x2), (3, .int x3), (4, .ref o4), (5, .int x5), (6, .int x6), (7, .long x7), (12, .int x12), (13, .int z13), (14, .long z14)]) hx hb dX10_vow_146 hl (by decide) rfl (fun ls hl => ?_)
          refine lv_iload hx hb dX10_vow_148 (lv_at hl 9 rfl) ?_
          refine lv_iconst (v := 3) hx hb dX10_vow_150 (by decide) ?_
          refine lv_imul hx hb dX10_vow_151 ?_
          refine lv_iload hx hb dX10_vow_152 (lv_at hl 10 rfl) ?_
          refine lv_iadd hx hb dX10_vow_154 ?_
          refine lv_istore (lv' := [(11, .int ((x12 * (3 : Int32)) + z13)), (9, .long z14), (0, .ref o0), (1, .int x1), (2, .int x2), (3, .int x3), (4, .ref o4), (5, .int x5), (6, .int x6), (7, .long x7), (12, .int x12), (13, .int z13), (14, .long z14)]) hx hb dX10_vow_155 hl (by decide) rfl (fun ls hl => ?_)
          refine lv_iinc (v := z13 + 1) (lv' := [(13, .int (z13 + 1)), (11, .int ((x12 * (3 : Int32)) + z13)), (9, .long z14), (0, .ref o0), (1, .int x1), (2, .int x2), (3, .int x3), (4, .ref o4), (5, .int x5), (6, .int x6), (7, .long x7), (12, .int x12), (14, .long z14)]) hx hb dX10_vow_157 hl (k := 11) rfl rfl (by decide) rfl (fun ls hl => ?_)
          refine lv_goto (tgt := 105) hx hb dX10_vow_160 (by decide) ?_
          exact ih z14 ((x12 * (3 : Int32)) + z13) (z13 + 1) S3 _ h _ _ _ hw (hG0.tr hg) t_o0 t_o4 (lv_sub hl [3, 4, 5, 6, 7, 8, 9, 10, 2, 1, 11, 0] rfl) (fun e0 e1 S2 he H locs ls hw hG hl => hx2 e0 e1 S2 he H locs ls hw (hg.tr hG) hl) hq2
        rw [f_X10_vow_b105] at h
        refine lv_iload hx hb dX10_vow_105 (lv_at hl 11 rfl) ?_
        refine lv_aload hx hb dX10_vow_107 (lv_at hl 4 rfl) ?_
        obtain ⟨b17, r_b17, h⟩ := bb h
        obtain ⟨r_b17, t_b17⟩ := rk_some r_b17
        refine g_R E F hw t_o4 cf9 fk_X10_103 dX10_vow_109 rfl r_b17 ?_
        refine lv_iload hx hb dX10_vow_112 (lv_at hl 10 rfl) ?_
        obtain ⟨c18, h⟩ := bg h
        refine a_i E F hw t_b17 c18 dX10_vow_114 ?_
        refine lv_icmp_ge (tgt := 163) hx hb dX10_vow_115 (by decide) (fun c22 => ?_) (fun c22 => ?_)
        · rw [if_pos c22] at h
          obtain rfl := Option.some.inj h
          exact hx2 x9 x11 S1 rfl _ _ _ hw hg (lv_sub hl [0, 1, 2, 3, 4, 5, 6, 7, 8, 9, 10] rfl)
        · rw [if_neg c22] at h
          refine lv_aload_n hx hb dX10_vow_118 rfl (lv_at hl 0 rfl) ?_
          refine lv_iload_n hx hb dX10_vow_119 rfl (lv_at hl 1 rfl) ?_
          refine lv_iload_n hx hb dX10_vow_120 rfl (lv_at hl 2 rfl) ?_
          refine lv_iload hx hb dX10_vow_121 (lv_at hl 10 rfl) ?_
          refine lv_iload hx hb dX10_vow_123 (lv_at hl 11 rfl) ?_
          obtain ⟨q19, h_q19, h⟩ := bb h
          refine z_VJ E F hw [.int x1, .int x2, .int x12, .int x13] (k_X10_hopesUnder l D cy kc o0 x1 x2 x12 x13 S1 h_q19 t_o0) t_o0 cf10 mk_X10_hopesUnder vk_X10_hopesUnder ml_X10_270 ⟨by decide, by decide⟩ rfl hl.1 rfl (Nat.le_of_ble_eq_true rfl) dX10_vow_125 ⟨(Nat.le_of_ble_eq_true rfl), (Nat.le_of_ble_eq_true rfl)⟩ (fun H locs hw hG => ?_)
          have t_o0 := hG.t t_o0
          have t_o4 := hG.t t_o4
          have hg := hg.tr hG
          refine lv_lstore (lv' := [(14, .long q19.1), (0, .ref o0), (1, .int x1), (2, .int x2), (3, .int x3), (4, .ref o4), (5, .int x5), (6, .int x6), (7, .long x7), (9, .long x9), (11, .int x11), (12, .int x12), (13, .int x13)]) hx hb dX10_vow_128 hl (by decide) rfl (fun ls hl => ?_)
          refine lv_iload hx hb dX10_vow_130 (lv_at hl 10 rfl) ?_
          refine lv_iconst (v := (-1)) hx hb dX10_vow_132 (by decide) ?_
          refine lv_icmp_eq (tgt := 144) hx hb dX10_vow_133 (by decide) (fun c21 => ?_) (fun c21 => ?_)
          · rw [if_pos c21] at h
            exact J144 x13 q19.1 q19.2 _ _ _ h hw hg t_o0 t_o4 (lv_sub hl [1, 2, 3, 4, 5, 6, 7, 8, 11, 12, 0] rfl)
          · rw [if_neg c21] at h
            refine lv_lload hx hb dX10_vow_136 (lv_at hl 0 rfl) ?_
            refine lv_lload hx hb dX10_vow_138 (lv_at hl 9 rfl) ?_
            refine W.lcmp hx hb dX10_vow_140 ?_
            refine lv_if_le (tgt := 157) hx hb dX10_vow_141 (by decide) (fun c20 => ?_) (fun c20 => ?_)
            · rw [if_pos c20] at h
              refine lv_iinc (v := x13 + 1) (lv' := [(13, .int (x13 + 1)), (14, .long q19.1), (0, .ref o0), (1, .int x1), (2, .int x2), (3, .int x3), (4, .ref o4), (5, .int x5), (6, .int x6), (7, .long x7), (9, .long x9), (11, .int x11), (12, .int x12)]) hx hb dX10_vow_157 hl (k := 12) rfl rfl (by decide) rfl (fun ls hl => ?_)
              refine lv_goto (tgt := 105) hx hb dX10_vow_160 (by decide) ?_
              exact ih x9 x11 (x13 + 1) q19.2 _ h _ _ _ hw (hG0.tr hg) t_o0 t_o4 (lv_sub hl [2, 3, 4, 5, 6, 7, 8, 9, 10, 11, 12, 0] rfl) (fun e0 e1 S2 he H locs ls hw hG hl => hx2 e0 e1 S2 he H locs ls hw (hg.tr hG) hl) hq2
            · rw [if_neg c20] at h
              exact J144 x13 q19.1 q19.2 _ _ _ h hw hg t_o0 t_o4 (lv_sub hl [1, 2, 3, 4, 5, 6, 7, 8, 11, 12, 0] rfl)
    have L92 : ∀ (o0 : Nat) (x1 : Int32) (x2 : Int32) (x3 : Int32) (o4 : Nat) (x5 : Int32) (x6 : Int32) (x7 : Int64) (n : Nat) (x9 : Int64) (x11 : Int32) (x12 : Int32) (S1 : PS) (o : (Int64 × PS) ⊕ (Int64 × Int32 × PS)), loopN (fun a => f_X10_vow_b92 o0 x1 x2 x3 o4 x5 x6 x7 a.1 a.2.1 a.2.2.1 a.2.2.2) n (x9, x11, x12, S1) = some o → ∀ (H : Heap) (locs : List Loc) (ls : Array Slot), Wd D cy A s H locs S1 → Gr S S1 → tD S1 o0 10 → tD S1 o4 9 → lv_has ls 16 [(0, .ref o0), (1, .int x1), (2, .int x2), (3, .int x3), (4, .ref o4), (5, .int x5), (6, .int x6), (7, .long x7), (9, .long x9), (11, .int x11), (12, .int x12)] → (∀ (e0 : Int64) (e1 : Int32) (S2 : PS), o = .inr (e0, e1, S2) → ∀ (H : Heap) (locs : List Loc) (ls : Array Slot), Wd D cy A s H locs S2 → Gr S1 S2 → lv_has ls 16 [(0, .ref o0), (1, .int x1), (3, .int x3), (5, .int x5), (6, .int x6), (7, .long x7), (9, .long e0), (11, .int e1)] → W p l e (rmK 9 295 1 6) s m args below meth c H locs 1 6 (vx_MQ below (GJ D cy S (fun r => post (some r)) s.heap.size) (XX D cy S (post none) s.heap.size) args s 1 6 A) (F0 m 169 ls [])) → (∀ q9, o = .inl q9 → q9 = qq) → W p l e (rmK 9 295 1 6) s m args below meth c H locs 1 6 (vx_MQ below (GJ D cy S (fun r => post (some r)) s.heap.size) (XX D cy S (post none) s.heap.size) args s 1 6 A) (F0 m 92 ls []) := by
      intro o0 x1 x2 x3 o4 x5 x6 x7 n
      induction n with
      | zero => intro x9 x11 x12 S1 o h; exact absurd h (by simp [loopN])
      | succ n ih =>
        intro x9 x11 x12 S1 o h H locs ls hw hG0 t_o0 t_o4 hl hx2 hq2
        have hg : Gr S1 S1 := Gr.rf
        replace h : (f_X10_vow_b92 o0 x1 x2 x3 o4 x5 x6 x7 x9 x11 x12 S1).bind (Sum.elim (loopN (fun a => f_X10_vow_b92 o0 x1 x2 x3 o4 x5 x6 x7 a.1 a.2.1 a.2.2.1 a.2.2.2) n) some) = some o := h
        have J163 : ∀ (z9 : Int64) (z11 : Int32) (z12 : Int32) (S3 : PS) (H : Heap) (locs : List Loc) (ls : Array Slot), (f_X10_vow_163b92 o0 x1 x2 x3 o4 x5 x6 x7 z9 z11 z12 S3).bind (Sum.elim (loopN (fun a => f_X10_vow_b92 o0 x1 x2 x3 o4 x5 x6 x7 a.1 a.2.1 a.2.2.1 a.2.2.2) n) some) = some o → Wd D cy A s H locs S3 → Gr S1 S3 → tD S3 o0 10 → tD S3 o4 9 → lv_has ls 16 [(0, .ref o0), (1, .int x1), (2, .int x2), (3, .int x3), (4, .ref o4), (5, .int x5), (6, .int x6), (7, .long x7), (9, .long z9), (11, .int z11), (12, .int z12)] → W p l e (rmK 9 295 1 6) s m args below meth c H locs 1 6 (vx_MQ below (GJ D cy S (fun r => post (some r)) s.heap.size) (XX D cy S (post none) s.heap.size) args s 1 6 A) (F0 m 163 ls []) := by
          intro z9 z11 z12 S3 H locs ls h hw hg t_o0 t_o4 hl
          rw [f_X10_vow_163b92] at h
          refine lv_iinc (v := z12 + 1) (lv' := [(12, .int (z12 + 1)), (0, .ref o0), (1, .int x1), (2, .int x2), (3, .int x3), (4, .ref o4), (5, .int x5), (6, .int x6), (7, .long x7), (9, .long z9), (11, .int z11)]) hx hb dX10_vow_163 hl (k := 10) rfl rfl (by decide) rfl (fun ls hl => ?_)
          refine lv_goto (tgt := 92) hx hb dX10_vow_166 (by decide) ?_
          exact ih z9 z11 (z12 + 1) S3 _ h _ _ _ hw (hG0.tr hg) t_o0 t_o4 (lv_sub hl [1, 2, 3, 4, 5, 6, 7, 8, 9, 10, 0] rfl) (fun e0 e1 S2 he H locs ls hw hG hl => hx2 e0 e1 S2 he H locs ls hw (hg.tr hG) hl) hq2
        rw [f_X10_vow_b92] at h
        refine lv_iload hx hb dX10_vow_92 (lv_at hl 10 rfl) ?_
        refine lv_aload hx hb dX10_vow_94 (lv_at hl 4 rfl) ?_
        refine g_f E F hw t_o4 cf9 fk_X10_261 dX10_vow_96 rfl ?_
        refine lv_icmp_ge (tgt := 169) hx hb dX10_vow_99 (by decide) (fun c24 => ?_) (fun c24 => ?_)
        · rw [if_pos c24] at h
          obtain rfl := Option.some.inj h
          exact hx2 x9 x11 S1 rfl _ _ _ hw hg (lv_sub hl [0, 1, 3, 5, 6, 7, 8, 9] rfl)
        · rw [if_neg c24] at h
          refine lv_iconst (v := 0) hx hb dX10_vow_102 (by decide) ?_
          refine lv_istore (lv' := [(13, .int (0 : Int32)), (0, .ref o0), (1, .int x1), (2, .int x2), (3, .int x3), (4, .ref o4), (5, .int x5), (6, .int x6), (7, .long x7), (9, .long x9), (11, .int x11), (12, .int x12)]) hx hb dX10_vow_103 hl (by decide) rfl (fun ls hl => ?_)
          obtain ⟨y23, hy23, h⟩ := bb h
          refine L105 o0 x1 x2 x3 o4 x5 x6 x7 x12 fu x9 x11 (0 : Int32) S1 y23 hy23 _ _ _ hw (hG0.tr hg) t_o0 t_o4 (lv_sub hl [1, 2, 3, 4, 5, 6, 7, 8, 9, 10, 11, 0] rfl) (fun e0 e1 S2 he H locs ls hw hG hl => ?_) (fun r he => ?_)
          · subst he
            have t_o0 := hG.t t_o0
            have t_o4 := hG.t t_o4
            have hg := hg.tr hG
            exact J163 e0 e1 x12 S2 _ _ _ h hw hg t_o0 t_o4 (lv_sub hl [0, 1, 2, 3, 4, 5, 6, 7, 8, 9, 10] rfl)
          · subst he
            exact hq2 r (Option.some.inj h).symm
    have J169 : ∀ (u0 : Nat) (z1 : Int32) (z3 : Int32) (z5 : Int32) (z6 : Int32) (z7 : Int64) (z9 : Int64) (z11 : Int32) (S3 : PS) (H : Heap) (locs : List Loc) (ls : Array Slot), (f_X10_vow_169 u0 z1 z3 z5 z6 z7 z9 z11 S3).bind some = some qq → Wd D cy A s H locs S3 → Gr S S3 → tD S3 u0 10 → lv_has ls 16 [(0, .ref u0), (1, .int z1), (3, .int z3), (5, .int z5), (6, .int z6), (7, .long z7), (9, .long z9), (11, .int z11)] → W p l e (rmK 9 295 1 6) s m args below meth c H locs 1 6 (vx_MQ below (GJ D cy S (fun r => post (some r)) s.heap.size) (XX D cy S (post none) s.heap.size) args s 1 6 A) (F0 m 169 ls []) := by
      intro u0 z1 z3 z5 z6 z7 z9 z11 S3 H locs ls h hw hg t_u0 hl
      rw [f_X10_vow_169] at h
      refine lv_aload_n hx hb dX10_vow_169 rfl (lv_at hl 0 rfl) ?_
      refine lv_iload_n hx hb dX10_vow_170 rfl (lv_at hl 1 rfl) ?_
      refine lv_iload hx hb dX10_vow_171 (lv_at hl 3 rfl) ?_
      refine lv_iload hx hb dX10_vow_173 (lv_at hl 4 rfl) ?_
      obtain ⟨q26, h_q26, h⟩ := bb h
      refine z_VV E F hw [.int z1, .int z5, .int z6] (k_X10_setPledge l D cy kc u0 z1 z5 z6 S3 h_q26 t_u0) t_u0 cf10 mk_X10_setPledge vk_X10_setPledge ml_X10_176 ⟨by decide, by decide⟩ rfl hl.1 rfl (Nat.le_of_ble_eq_true rfl) dX10_vow_175 ⟨(Nat.le_of_ble_eq_true rfl), (Nat.le_of_ble_eq_true rfl)⟩ (fun H locs hw hG => ?_)
      have t_u0 := hG.t t_u0
      have hg := hg.tr hG
      refine lv_iload_n hx hb dX10_vow_178 rfl (lv_at hl 2 rfl) ?_
      refine lv_if_ne (tgt := 188) hx hb dX10_vow_179 (by decide) (fun c28 => ?_) (fun c28 => ?_)
      · rw [if_neg c28] at h
        refine lv_lload hx hb dX10_vow_188 (lv_at hl 6 rfl) ?_
        refine lv_lload hx hb dX10_vow_190 (lv_at hl 5 rfl) ?_
        refine lv_lsub hx hb dX10_vow_192 ?_
        refine lv_ldc2 hx hb E.2.2.2.1 (E.2.2.2.2 _ kl_X10_259) dX10_vow_193 ?_
        refine lv_iload_n hx hb dX10_vow_196 rfl (lv_at hl 2 rfl) ?_
        refine lv_iconst (v := 1) hx hb dX10_vow_197 (by decide) ?_
        refine lv_isub hx hb dX10_vow_198 ?_
        obtain ⟨q27, h_q27, h⟩ := bb h
        refine z_SJ E F hw [.long (z9 - z7), .long (2176782336 : Int64), .int (z3 - (1 : Int32))] (k_X10_lowestTerms l D cy kc (z9 - z7) (2176782336 : Int64) (z3 - (1 : Int32)) q26.2 h_q27) mk_X10_lowestTerms sk_X10_lowestTerms ml_X10_168 ⟨by decide, by decide⟩ rfl hl.1 rfl (Nat.le_of_ble_eq_true rfl) dX10_vow_199 ⟨(Nat.le_of_ble_eq_true rfl), (Nat.le_of_ble_eq_true rfl)⟩ (fun H locs hw hG => ?_)
        have t_u0 := hG.t t_u0
        have hg := hg.tr hG
        obtain rfl := Option.some.inj h
        exact vx_ret (h_J E hr hlk F hA hw hg hpo (Nat.le_of_ble_eq_true rfl) (Nat.le_of_ble_eq_true rfl) dX10_vow_202)
      · rw [if_pos c28] at h
        refine lv_iload hx hb dX10_vow_182 (lv_at hl 7 rfl) ?_
        refine lv_i2l hx hb dX10_vow_184 rfl ?_
        refine lv_goto (tgt := 202) hx hb dX10_vow_185 (by decide) ?_
        obtain rfl := Option.some.inj h
        exact vx_ret (h_J E hr hlk F hA hw hg hpo (Nat.le_of_ble_eq_true rfl) (Nat.le_of_ble_eq_true rfl) dX10_vow_202)
    rw [f_X10_vow_t51] at h
    refine lv_aload_n hx hb dX10_vow_51 rfl (lv_at hl 0 rfl) ?_
    obtain ⟨b10, r_b10, h⟩ := bb h
    obtain ⟨r_b10, t_b10⟩ := rk_some r_b10
    refine g_R E F hw t_u0 cf10 fk_X10_34 dX10_vow_52 rfl r_b10 ?_
    obtain ⟨b11, r_b11, h⟩ := bb h
    obtain ⟨r_b11, t_b11⟩ := rk_some r_b11
    refine g_R E F hw t_b10 cf8 fk_X10_264 dX10_vow_55 rfl r_b11 ?_
    refine lv_iload_n hx hb dX10_vow_58 rfl (lv_at hl 1 rfl) ?_
    obtain ⟨c12, h⟩ := bg h
    refine a_i E F hw t_b11 c12 dX10_vow_59 ?_
    refine lv_istore (lv' := [(5, .int (sI S3 b11 (Int32.toNatClampNeg z1))), (0, .ref u0), (1, .int z1), (2, .int z2), (3, .int z3), (4, .ref u4)]) hx hb dX10_vow_60 hl (by decide) rfl (fun ls hl => ?_)
    refine lv_aload_n hx hb dX10_vow_62 rfl (lv_at hl 1 rfl) ?_
    obtain ⟨b13, r_b13, h⟩ := bb h
    obtain ⟨r_b13, t_b13⟩ := rk_some r_b13
    refine g_R E F hw t_u0 cf10 fk_X10_34 dX10_vow_63 rfl r_b13 ?_
    obtain ⟨b14, r_b14, h⟩ := bb h
    obtain ⟨r_b14, t_b14⟩ := rk_some r_b14
    refine g_R E F hw t_b13 cf8 fk_X10_267 dX10_vow_66 rfl r_b14 ?_
    refine lv_iload_n hx hb dX10_vow_69 rfl (lv_at hl 2 rfl) ?_
    obtain ⟨c15, h⟩ := bg h
    refine a_i E F hw t_b14 c15 dX10_vow_70 ?_
    refine lv_istore (lv' := [(6, .int (sI S3 b14 (Int32.toNatClampNeg z1))), (5, .int (sI S3 b11 (Int32.toNatClampNeg z1))), (0, .ref u0), (1, .int z1), (2, .int z2), (3, .int z3), (4, .ref u4)]) hx hb dX10_vow_71 hl (by decide) rfl (fun ls hl => ?_)
    refine lv_aload_n hx hb dX10_vow_73 rfl (lv_at hl 2 rfl) ?_
    refine lv_iload_n hx hb dX10_vow_74 rfl (lv_at hl 3 rfl) ?_
    refine lv_iload_n hx hb dX10_vow_75 rfl (lv_at hl 4 rfl) ?_
    refine lv_iconst (v := (-1)) hx hb dX10_vow_76 (by decide) ?_
    refine lv_iconst (v := 0) hx hb dX10_vow_77 (by decide) ?_
    obtain ⟨q16, h_q16, h⟩ := bb h
    refine z_VJ E F hw [.int z1, .int z2, .int (-1 : Int32), .int (0 : Int32)] (k_X10_hopesUnder l D cy kc u0 z1 z2 (-1 : Int32) (0 : Int32) S3 h_q16 t_u0) t_u0 cf10 mk_X10_hopesUnder vk_X10_hopesUnder ml_X10_270 ⟨by decide, by decide⟩ rfl hl.1 rfl (Nat.le_of_ble_eq_true rfl) dX10_vow_78 ⟨(Nat.le_of_ble_eq_true rfl), (Nat.le_of_ble_eq_true rfl)⟩ (fun H locs hw hG => ?_)
    have t_u0 := hG.t t_u0
    have t_u4 := hG.t t_u4
    have hg := hg.tr hG
    refine lv_lstore (lv' := [(7, .long q16.1), (6, .int (sI S3 b14 (Int32.toNatClampNeg z1))), (5, .int (sI S3 b11 (Int32.toNatClampNeg z1))), (0, .ref u0), (1, .int z1), (2, .int z2), (3, .int z3), (4, .ref u4)]) hx hb dX10_vow_81 hl (by decide) rfl (fun ls hl => ?_)
    refine lv_lconst (v := 0) hx hb dX10_vow_83 (by decide) ?_
    refine lv_lstore (lv' := [(9, .long (0 : Int64)), (7, .long q16.1), (6, .int (sI S3 b14 (Int32.toNatClampNeg z1))), (5, .int (sI S3 b11 (Int32.toNatClampNeg z1))), (0, .ref u0), (1, .int z1), (2, .int z2), (3, .int z3), (4, .ref u4)]) hx hb dX10_vow_84 hl (by decide) rfl (fun ls hl => ?_)
    refine lv_iconst (v := (-1)) hx hb dX10_vow_86 (by decide) ?_
    refine lv_istore (lv' := [(11, .int (-1 : Int32)), (9, .long (0 : Int64)), (7, .long q16.1), (6, .int (sI S3 b14 (Int32.toNatClampNeg z1))), (5, .int (sI S3 b11 (Int32.toNatClampNeg z1))), (0, .ref u0), (1, .int z1), (2, .int z2), (3, .int z3), (4, .ref u4)]) hx hb dX10_vow_87 hl (by decide) rfl (fun ls hl => ?_)
    refine lv_iconst (v := 0) hx hb dX10_vow_89 (by decide) ?_
    refine lv_istore (lv' := [(12, .int (0 : Int32)), (11, .int (-1 : Int32)), (9, .long (0 : Int64)), (7, .long q16.1), (6, .int (sI S3 b14 (Int32.toNatClampNeg z1))), (5, .int (sI S3 b11 (Int32.toNatClampNeg z1))), (0, .ref u0), (1, .int z1), (2, .int z2), (3, .int z3), (4, .ref u4)]) hx hb dX10_vow_90 hl (by decide) rfl (fun ls hl => ?_)
    obtain ⟨y25, hy25, h⟩ := bb h
    refine L92 u0 z1 z2 z3 u4 (sI S3 b11 (Int32.toNatClampNeg z1)) (sI S3 b14 (Int32.toNatClampNeg z1)) q16.1 fu (0 : Int64) (-1 : Int32) (0 : Int32) q16.2 y25 hy25 _ _ _ hw (hg) t_u0 t_u4 (lv_sub hl [6, 7, 8, 9, 10, 5, 4, 3, 2, 1, 0] rfl) (fun e0 e1 S2 he H locs ls hw hG hl => ?_) (fun r he => ?_)
    · subst he
      have t_u0 := hG.t t_u0
      have hg := hg.tr hG
      exact J169 u0 z1 z3 (sI S3 b11 (Int32.toNatClampNeg z1)) (sI S3 b14 (Int32.toNatClampNeg z1)) q16.1 e0 e1 S2 _ _ _ h hw hg t_u0 (lv_sub hl [0, 1, 2, 3, 4, 5, 6, 7] rfl)
    · subst he
      exact Option.some.inj h
  rw [g_X10_vow] at h
  refine lv_aload_n hx hb dX10_vow_0 rfl (lv_at hl 0 rfl) ?_
  obtain ⟨b1, r_b1, h⟩ := h
  obtain ⟨r_b1, t_b1⟩ := rk_some r_b1
  refine g_R E F hw t_o0 cf10 fk_X10_34 dX10_vow_1 rfl r_b1 ?_
  obtain ⟨b2, r_b2, h⟩ := h
  obtain ⟨r_b2, t_b2⟩ := rk_some r_b2
  refine g_R E F hw t_b1 cf8 fk_X10_81 dX10_vow_4 rfl r_b2 ?_
  refine lv_astore (lv' := [(4, .ref b2), (0, .ref o0), (1, .int x1), (2, .int x2), (3, .int x3)]) hx hb dX10_vow_7 hl (by decide) rfl (fun ls hl => ?_)
  refine lv_aload_n hx hb dX10_vow_9 rfl (lv_at hl 1 rfl) ?_
  refine lv_iload_n hx hb dX10_vow_10 rfl (lv_at hl 2 rfl) ?_
  obtain ⟨q3, h_q3, h⟩ := h
  refine z_VI E F hw [.int x1] (k_X10_isForeseen l D cy kc o0 x1 S h_q3 t_o0) t_o0 cf10 mk_X10_isForeseen vk_X10_isForeseen ml_X10_184 ⟨by decide, by decide⟩ rfl hl.1 rfl (Nat.le_of_ble_eq_true rfl) dX10_vow_11 ⟨(Nat.le_of_ble_eq_true rfl), (Nat.le_of_ble_eq_true rfl)⟩ (fun H locs hw hG => ?_)
  have t_o0 := hG.t t_o0
  have t_b2 := hG.t t_b2
  have hg := hg.tr hG
  refine lv_if_eq (tgt := 47) hx hb dX10_vow_14 (by decide) (fun c4 => ?_) (fun c4 => ?_)
  · replace h := h.1 c4
    refine lv_iconst (v := 0) hx hb dX10_vow_47 (by decide) ?_
    refine x_need (K := False) E F hw hst hnt hlk hA hg ⟨fun _ => h, fun e => e rfl⟩ ml_X10_122 ⟨by decide, by decide⟩ hl.1 (Nat.le_of_ble_eq_true rfl) dX10_vow_48 ⟨(Nat.le_of_ble_eq_true rfl), (Nat.le_of_ble_eq_true rfl)⟩ ⟨(Nat.le_of_ble_eq_true rfl), (Nat.le_of_ble_eq_true rfl)⟩ (fun z => z.elim)
  · replace h := h.2 c4
    refine lv_aload hx hb dX10_vow_17 (lv_at hl 0 rfl) ?_
    refine lv_iload_n hx hb dX10_vow_19 rfl (lv_at hl 3 rfl) ?_
    obtain ⟨q5, h_q5, h⟩ := h
    refine z_VI E F hw [.int x2] (k_X9_hasSort l D cy kc b2 x2 q3.2 h_q5 t_b2) t_b2 cf9 mk_X9_hasSort vk_X9_hasSort ml_X10_116 ⟨by decide, by decide⟩ rfl hl.1 rfl (Nat.le_of_ble_eq_true rfl) dX10_vow_20 ⟨(Nat.le_of_ble_eq_true rfl), (Nat.le_of_ble_eq_true rfl)⟩ (fun H locs hw hG => ?_)
    have t_o0 := hG.t t_o0
    have t_b2 := hG.t t_b2
    have hg := hg.tr hG
    refine lv_if_eq (tgt := 47) hx hb dX10_vow_23 (by decide) (fun c6 => ?_) (fun c6 => ?_)
    · replace h := h.1 c6
      refine lv_iconst (v := 0) hx hb dX10_vow_47 (by decide) ?_
      refine x_need (K := False) E F hw hst hnt hlk hA hg ⟨fun _ => h, fun e => e rfl⟩ ml_X10_122 ⟨by decide, by decide⟩ hl.1 (Nat.le_of_ble_eq_true rfl) dX10_vow_48 ⟨(Nat.le_of_ble_eq_true rfl), (Nat.le_of_ble_eq_true rfl)⟩ ⟨(Nat.le_of_ble_eq_true rfl), (Nat.le_of_ble_eq_true rfl)⟩ (fun z => z.elim)
    · replace h := h.2 c6
      refine lv_aload hx hb dX10_vow_26 (lv_at hl 0 rfl) ?_
      refine g_f E F hw t_b2 cf9 fk_X10_261 dX10_vow_28 rfl ?_
      refine lv_if_le (tgt := 47) hx hb dX10_vow_31 (by decide) (fun c7 => ?_) (fun c7 => ?_)
      · replace h := h.1 c7
        refine lv_iconst (v := 0) hx hb dX10_vow_47 (by decide) ?_
        refine x_need (K := False) E F hw hst hnt hlk hA hg ⟨fun _ => h, fun e => e rfl⟩ ml_X10_122 ⟨by decide, by decide⟩ hl.1 (Nat.le_of_ble_eq_true rfl) dX10_vow_48 ⟨(Nat.le_of_ble_eq_true rfl), (Nat.le_of_ble_eq_true rfl)⟩ ⟨(Nat.le_of_ble_eq_true rfl), (Nat.le_of_ble_eq_true rfl)⟩ (fun z => z.elim)
      · replace h := h.2 c7
        refine lv_iload_n hx hb dX10_vow_34 rfl (lv_at hl 4 rfl) ?_
        refine lv_if_lt (tgt := 47) hx hb dX10_vow_35 (by decide) (fun c8 => ?_) (fun c8 => ?_)
        · replace h := h.1 c8
          refine lv_iconst (v := 0) hx hb dX10_vow_47 (by decide) ?_
          refine x_need (K := False) E F hw hst hnt hlk hA hg ⟨fun _ => h, fun e => e rfl⟩ ml_X10_122 ⟨by decide, by decide⟩ hl.1 (Nat.le_of_ble_eq_true rfl) dX10_vow_48 ⟨(Nat.le_of_ble_eq_true rfl), (Nat.le_of_ble_eq_true rfl)⟩ ⟨(Nat.le_of_ble_eq_true rfl), (Nat.le_of_ble_eq_true rfl)⟩ (fun z => z.elim)
        · replace h := h.2 c8
          refine lv_iload_n hx hb dX10_vow_38 rfl (lv_at hl 4 rfl) ?_
          refine lv_iconst (v := 2) hx hb dX10_vow_39 (by decide) ?_
          refine lv_icmp_gt (tgt := 47) hx hb dX10_vow_40 (by decide) (fun c9 => ?_) (fun c9 => ?_)
          · replace h := h.1 c9
            refine lv_iconst (v := 0) hx hb dX10_vow_47 (by decide) ?_
            refine x_need (K := False) E F hw hst hnt hlk hA hg ⟨fun _ => h, fun e => e rfl⟩ ml_X10_122 ⟨by decide, by decide⟩ hl.1 (Nat.le_of_ble_eq_true rfl) dX10_vow_48 ⟨(Nat.le_of_ble_eq_true rfl), (Nat.le_of_ble_eq_true rfl)⟩ ⟨(Nat.le_of_ble_eq_true rfl), (Nat.le_of_ble_eq_true rfl)⟩ (fun z => z.elim)
          · replace h := h.2 c9
            refine lv_iconst (v := 1) hx hb dX10_vow_43 (by decide) ?_
            refine lv_goto (tgt := 48) hx hb dX10_vow_44 (by decide) ?_
            refine x_need (K := True) E F hw hst hnt hlk hA hg ⟨fun e => absurd e (by decide), fun _ => trivial⟩ ml_X10_122 ⟨by decide, by decide⟩ hl.1 (Nat.le_of_ble_eq_true rfl) dX10_vow_48 ⟨(Nat.le_of_ble_eq_true rfl), (Nat.le_of_ble_eq_true rfl)⟩ ⟨(Nat.le_of_ble_eq_true rfl), (Nat.le_of_ble_eq_true rfl)⟩ (fun _ H locs hw => ?_)
            obtain ⟨qq, h, hpo⟩ := h
            exact T51 o0 x1 x2 x3 b2 q5.2 qq _ _ _ hpo (by rw [h]; rfl) hw hg t_o0 t_b2 (lv_sub hl [1, 2, 3, 4, 0] rfl)
def f_X10_bind_t41 (u0 : Nat) (z1 : Int32) (z2 : Int32) (z3 : Int32) (z4 : Int32) (z5 : Int32) (S3 : PS) : Option (Int64 × PS) :=
  (rk S3 (sR S3 u0 3) 8).bind fun b9 => (rk S3 (sR S3 b9 4) 15).bind fun b10 => if ib z1 (sN S3 b10) = true then (f_X10_setStone u0 z1 (1 : Int32) S3).bind fun q12 => (f_X10_valueAnew u0 z2 z3 z4 q12.2).bind fun q13 => (f_X10_setStone u0 z1 (0 : Int32) q13.2).bind fun q14 => (f_X10_valueAnew u0 z2 z3 z4 q14.2).bind fun q15 => (f_X10_setStone u0 z1 (sI S3 b10 (Int32.toNatClampNeg z1)) q15.2).bind fun q16 => (f_X10_lowestTerms (q13.1 - q15.1) (7776 : Int64) z5 q16.2).bind fun q17 => some (q17.1, q17.2) else none
def g_X10_bind (o0 : Nat) (x1 : Int32) (x2 : Int32) (x3 : Int32) (x4 : Int32) (x5 : Int32) (S : PS) (post : Option Int64 → PS → Prop) : Prop :=
  ∃ b1, (rk S (sR S o0 3) 8) = some b1 ∧ (∃ b2, (rk S (sR S b1 0) 9) = some b2 ∧ (∃ q3, (f_X9_hasThing b2 x1 S) = some q3 ∧ (((q3.1 = (0 : Int32) → (post none q3.2)) ∧ (¬ q3.1 = (0 : Int32) → (∃ q5, (f_X10_isScene o0 x2 x3 x4 q3.2) = some q5 ∧ (((q5.1 = (0 : Int32) → (post none q5.2)) ∧ (¬ q5.1 = (0 : Int32) → (∃ q7, (f_X10_isPart x5 q5.2) = some q7 ∧ (((q7.1 = (0 : Int32) → (post none q7.2)) ∧ (¬ q7.1 = (0 : Int32) → (∃ qq, f_X10_bind_t41 o0 x1 x2 x3 x4 x5 q7.2 = some qq ∧ post (some qq.1) qq.2))))))))))))))
set_option maxHeartbeats 4000000 in
set_option maxRecDepth 100000 in
theorem k_X10_bind (l : Launch) (hst : l.stackTraces = false) (D : va_G) (cy : Nat → ClassId) (kc : Nat → Nat) (o0 : Nat) (x1 : Int32) (x2 : Int32) (x3 : Int32) (x4 : Int32) (x5 : Int32) (S : PS) {post : Option Int64 → PS → Prop} (h : g_X10_bind o0 x1 x2 x3 x4 x5 S post) (t_o0 : tD S o0 10) : XJ l D cy kc yX10_bind cX10_bind 11 (rmK 9 294 1 6) [.ref o0, .int x1, .int x2, .int x3, .int x4, .int x5] S post := by
  refine X_body (Qc := fun sz => GJ D cy S (fun r => post (some r)) sz) (XC := fun sz => XX D cy S (post none) sz) (by decide) (Nat.le_of_ble_eq_true rfl) ?_
  intro p e s m below meth c A ls args E hr hlk hnm hA F hw hl hnt
  have hx := E.1
  have hb := E.2.1
  have hl : lv_has ls 11 [(0, .ref o0), (1, .int x1), (2, .int x2), (3, .int x3), (4, .int x4), (5, .int x5)] := hl
  have hg : Gr S S := Gr.rf
  have T41 : ∀ (u0 : Nat) (z1 : Int32) (z2 : Int32) (z3 : Int32) (z4 : Int32) (z5 : Int32) (S3 : PS) (qq : Int64 × PS) (H : Heap) (locs : List Loc) (ls : Array Slot), post (some qq.1) qq.2 → (f_X10_bind_t41 u0 z1 z2 z3 z4 z5 S3).bind some = some qq → Wd D cy A s H locs S3 → Gr S S3 → tD S3 u0 10 → lv_has ls 11 [(0, .ref u0), (1, .int z1), (2, .int z2), (3, .int z3), (4, .int z4), (5, .int z5)] → W p l e (rmK 9 294 1 6) s m args below meth c H locs 1 6 (vx_MQ below (GJ D cy S (fun r => post (some r)) s.heap.size) (XX D cy S (post none) s.heap.size) args s 1 6 A) (F0 m 41 ls []) := by
    intro u0 z1 z2 z3 z4 z5 S3 qq H locs ls hpo h hw hg t_u0 hl
    rw [f_X10_bind_t41] at h
    refine lv_aload_n hx hb dX10_bind_41 rfl (lv_at hl 0 rfl) ?_
    obtain ⟨b9, r_b9, h⟩ := bb h
    obtain ⟨r_b9, t_b9⟩ := rk_some r_b9
    refine g_R E F hw t_u0 cf10 fk_X10_34 dX10_bind_42 rfl r_b9 ?_
    obtain ⟨b10, r_b10, h⟩ := bb h
    obtain ⟨r_b10, t_b10⟩ := rk_some r_b10
    refine g_R E F hw t_b9 cf8 fk_X10_112 dX10_bind_45 rfl r_b10 ?_
    refine lv_iload_n hx hb dX10_bind_48 rfl (lv_at hl 1 rfl) ?_
    obtain ⟨c11, h⟩ := bg h
    refine a_z E F hw t_b10 c11 dX10_bind_49 ?_
    refine lv_istore (lv' := [(6, .int (sI S3 b10 (Int32.toNatClampNeg z1))), (0, .ref u0), (1, .int z1), (2, .int z2), (3, .int z3), (4, .int z4), (5, .int z5)]) hx hb dX10_bind_50 hl (by decide) rfl (fun ls hl => ?_)
    refine lv_aload_n hx hb dX10_bind_52 rfl (lv_at hl 1 rfl) ?_
    refine lv_iload_n hx hb dX10_bind_53 rfl (lv_at hl 2 rfl) ?_
    refine lv_iconst (v := 1) hx hb dX10_bind_54 (by decide) ?_
    obtain ⟨q12, h_q12, h⟩ := bb h
    refine z_VV E F hw [.int z1, .int (1 : Int32)] (k_X10_setStone l D cy kc u0 z1 (1 : Int32) S3 h_q12 t_u0) t_u0 cf10 mk_X10_setStone vk_X10_setStone ml_X10_180 ⟨by decide, by decide⟩ rfl hl.1 rfl (Nat.le_of_ble_eq_true rfl) dX10_bind_55 ⟨(Nat.le_of_ble_eq_true rfl), (Nat.le_of_ble_eq_true rfl)⟩ (fun H locs hw hG => ?_)
    have t_u0 := hG.t t_u0
    have hg := hg.tr hG
    refine lv_aload_n hx hb dX10_bind_58 rfl (lv_at hl 1 rfl) ?_
    refine lv_iload_n hx hb dX10_bind_59 rfl (lv_at hl 3 rfl) ?_
    refine lv_iload_n hx hb dX10_bind_60 rfl (lv_at hl 4 rfl) ?_
    refine lv_iload hx hb dX10_bind_61 (lv_at hl 5 rfl) ?_
    obtain ⟨q13, h_q13, h⟩ := bb h
    refine z_VJ E F hw [.int z2, .int z3, .int z4] (k_X10_valueAnew l D cy kc u0 z2 z3 z4 q12.2 h_q13 t_u0) t_u0 cf10 mk_X10_valueAnew vk_X10_valueAnew ml_X10_273 ⟨by decide, by decide⟩ rfl hl.1 rfl (Nat.le_of_ble_eq_true rfl) dX10_bind_63 ⟨(Nat.le_of_ble_eq_true rfl), (Nat.le_of_ble_eq_true rfl)⟩ (fun H locs hw hG => ?_)
    have t_u0 := hG.t t_u0
    have hg := hg.tr hG
    refine lv_lstore (lv' := [(7, .long q13.1), (6, .int (sI S3 b10 (Int32.toNatClampNeg z1))), (0, .ref u0), (1, .int z1), (2, .int z2), (3, .int z3), (4, .int z4), (5, .int z5)]) hx hb dX10_bind_66 hl (by decide) rfl (fun ls hl => ?_)
    refine lv_aload_n hx hb dX10_bind_68 rfl (lv_at hl 2 rfl) ?_
    refine lv_iload_n hx hb dX10_bind_69 rfl (lv_at hl 3 rfl) ?_
    refine lv_iconst (v := 0) hx hb dX10_bind_70 (by decide) ?_
    obtain ⟨q14, h_q14, h⟩ := bb h
    refine z_VV E F hw [.int z1, .int (0 : Int32)] (k_X10_setStone l D cy kc u0 z1 (0 : Int32) q13.2 h_q14 t_u0) t_u0 cf10 mk_X10_setStone vk_X10_setStone ml_X10_180 ⟨by decide, by decide⟩ rfl hl.1 rfl (Nat.le_of_ble_eq_true rfl) dX10_bind_71 ⟨(Nat.le_of_ble_eq_true rfl), (Nat.le_of_ble_eq_true rfl)⟩ (fun H locs hw hG => ?_)
    have t_u0 := hG.t t_u0
    have hg := hg.tr hG
    refine lv_aload_n hx hb dX10_bind_74 rfl (lv_at hl 2 rfl) ?_
    refine lv_iload_n hx hb dX10_bind_75 rfl (lv_at hl 4 rfl) ?_
    refine lv_iload_n hx hb dX10_bind_76 rfl (lv_at hl 5 rfl) ?_
    refine lv_iload hx hb dX10_bind_77 (lv_at hl 6 rfl) ?_
    obtain ⟨q15, h_q15, h⟩ := bb h
    refine z_VJ E F hw [.int z2, .int z3, .int z4] (k_X10_valueAnew l D cy kc u0 z2 z3 z4 q14.2 h_q15 t_u0) t_u0 cf10 mk_X10_valueAnew vk_X10_valueAnew ml_X10_273 ⟨by decide, by decide⟩ rfl hl.1 rfl (Nat.le_of_ble_eq_true rfl) dX10_bind_79 ⟨(Nat.le_of_ble_eq_true rfl), (Nat.le_of_ble_eq_true rfl)⟩ (fun H locs hw hG => ?_)
    have t_u0 := hG.t t_u0
    have hg := hg.tr hG
    refine lv_lstore (lv' := [(9, .long q15.1), (7, .long q13.1), (6, .int (sI S3 b10 (Int32.toNatClampNeg z1))), (0, .ref u0), (1, .int z1), (2, .int z2), (3, .int z3), (4, .int z4), (5, .int z5)]) hx hb dX10_bind_82 hl (by decide) rfl (fun ls hl => ?_)
    refine lv_aload_n hx hb dX10_bind_84 rfl (lv_at hl 3 rfl) ?_
    refine lv_iload_n hx hb dX10_bind_85 rfl (lv_at hl 4 rfl) ?_
    refine lv_iload hx hb dX10_bind_86 (lv_at hl 2 rfl) ?_
    obtain ⟨q16, h_q16, h⟩ := bb h
    refine z_VV E F hw [.int z1, .int (sI S3 b10 (Int32.toNatClampNeg z1))] (k_X10_setStone l D cy kc u0 z1 (sI S3 b10 (Int32.toNatClampNeg z1)) q15.2 h_q16 t_u0) t_u0 cf10 mk_X10_setStone vk_X10_setStone ml_X10_180 ⟨by decide, by decide⟩ rfl hl.1 rfl (Nat.le_of_ble_eq_true rfl) dX10_bind_88 ⟨(Nat.le_of_ble_eq_true rfl), (Nat.le_of_ble_eq_true rfl)⟩ (fun H locs hw hG => ?_)
    have t_u0 := hG.t t_u0
    have hg := hg.tr hG
    refine lv_lload hx hb dX10_bind_91 (lv_at hl 1 rfl) ?_
    refine lv_lload hx hb dX10_bind_93 (lv_at hl 0 rfl) ?_
    refine lv_lsub hx hb dX10_bind_95 ?_
    refine lv_ldc2 hx hb E.2.2.2.1 (E.2.2.2.2 _ kl_X10_166) dX10_bind_96 ?_
    refine lv_iload hx hb dX10_bind_99 (lv_at hl 8 rfl) ?_
    obtain ⟨q17, h_q17, h⟩ := bb h
    refine z_SJ E F hw [.long (q13.1 - q15.1), .long (7776 : Int64), .int z5] (k_X10_lowestTerms l D cy kc (q13.1 - q15.1) (7776 : Int64) z5 q16.2 h_q17) mk_X10_lowestTerms sk_X10_lowestTerms ml_X10_168 ⟨by decide, by decide⟩ rfl hl.1 rfl (Nat.le_of_ble_eq_true rfl) dX10_bind_101 ⟨(Nat.le_of_ble_eq_true rfl), (Nat.le_of_ble_eq_true rfl)⟩ (fun H locs hw hG => ?_)
    have t_u0 := hG.t t_u0
    have hg := hg.tr hG
    obtain rfl := Option.some.inj h
    exact vx_ret (h_J E hr hlk F hA hw hg hpo (Nat.le_of_ble_eq_true rfl) (Nat.le_of_ble_eq_true rfl) dX10_bind_104)
  rw [g_X10_bind] at h
  refine lv_aload_n hx hb dX10_bind_0 rfl (lv_at hl 0 rfl) ?_
  obtain ⟨b1, r_b1, h⟩ := h
  obtain ⟨r_b1, t_b1⟩ := rk_some r_b1
  refine g_R E F hw t_o0 cf10 fk_X10_34 dX10_bind_1 rfl r_b1 ?_
  obtain ⟨b2, r_b2, h⟩ := h
  obtain ⟨r_b2, t_b2⟩ := rk_some r_b2
  refine g_R E F hw t_b1 cf8 fk_X10_81 dX10_bind_4 rfl r_b2 ?_
  refine lv_iload_n hx hb dX10_bind_7 rfl (lv_at hl 1 rfl) ?_
  obtain ⟨q3, h_q3, h⟩ := h
  refine z_VI E F hw [.int x1] (k_X9_hasThing l D cy kc b2 x1 S h_q3 t_b2) t_b2 cf9 mk_X9_hasThing vk_X9_hasThing ml_X10_99 ⟨by decide, by decide⟩ rfl hl.1 rfl (Nat.le_of_ble_eq_true rfl) dX10_bind_8 ⟨(Nat.le_of_ble_eq_true rfl), (Nat.le_of_ble_eq_true rfl)⟩ (fun H locs hw hG => ?_)
  have t_o0 := hG.t t_o0
  have hg := hg.tr hG
  refine lv_if_eq (tgt := 37) hx hb dX10_bind_11 (by decide) (fun c4 => ?_) (fun c4 => ?_)
  · replace h := h.1 c4
    refine lv_iconst (v := 0) hx hb dX10_bind_37 (by decide) ?_
    refine x_need (K := False) E F hw hst hnt hlk hA hg ⟨fun _ => h, fun e => e rfl⟩ ml_X10_122 ⟨by decide, by decide⟩ hl.1 (Nat.le_of_ble_eq_true rfl) dX10_bind_38 ⟨(Nat.le_of_ble_eq_true rfl), (Nat.le_of_ble_eq_true rfl)⟩ ⟨(Nat.le_of_ble_eq_true rfl), (Nat.le_of_ble_eq_true rfl)⟩ (fun z => z.elim)
  · replace h := h.2 c4
    refine lv_aload_n hx hb dX10_bind_14 rfl (lv_at hl 0 rfl) ?_
    refine lv_iload_n hx hb dX10_bind_15 rfl (lv_at hl 2 rfl) ?_
    refine lv_iload_n hx hb dX10_bind_16 rfl (lv_at hl 3 rfl) ?_
    refine lv_iload hx hb dX10_bind_17 (lv_at hl 4 rfl) ?_
    obtain ⟨q5, h_q5, h⟩ := h
    refine z_VI E F hw [.int x2, .int x3, .int x4] (k_X10_isScene l D cy kc o0 x2 x3 x4 q3.2 h_q5 t_o0) t_o0 cf10 mk_X10_isScene vk_X10_isScene ml_X10_144 ⟨by decide, by decide⟩ rfl hl.1 rfl (Nat.le_of_ble_eq_true rfl) dX10_bind_19 ⟨(Nat.le_of_ble_eq_true rfl), (Nat.le_of_ble_eq_true rfl)⟩ (fun H locs hw hG => ?_)
    have t_o0 := hG.t t_o0
    have hg := hg.tr hG
    refine lv_if_eq (tgt := 37) hx hb dX10_bind_22 (by decide) (fun c6 => ?_) (fun c6 => ?_)
    · replace h := h.1 c6
      refine lv_iconst (v := 0) hx hb dX10_bind_37 (by decide) ?_
      refine x_need (K := False) E F hw hst hnt hlk hA hg ⟨fun _ => h, fun e => e rfl⟩ ml_X10_122 ⟨by decide, by decide⟩ hl.1 (Nat.le_of_ble_eq_true rfl) dX10_bind_38 ⟨(Nat.le_of_ble_eq_true rfl), (Nat.le_of_ble_eq_true rfl)⟩ ⟨(Nat.le_of_ble_eq_true rfl), (Nat.le_of_ble_eq_true rfl)⟩ (fun z => z.elim)
    · replace h := h.2 c6
      refine lv_iload hx hb dX10_bind_25 (lv_at hl 5 rfl) ?_
      obtain ⟨q7, h_q7, h⟩ := h
      refine z_SI E F hw [.int x5] (k_X10_isPart l D cy kc x5 q5.2 h_q7) mk_X10_isPart sk_X10_isPart ml_X10_159 ⟨by decide, by decide⟩ rfl hl.1 rfl (Nat.le_of_ble_eq_true rfl) dX10_bind_27 ⟨(Nat.le_of_ble_eq_true rfl), (Nat.le_of_ble_eq_true rfl)⟩ (fun H locs hw hG => ?_)
      have t_o0 := hG.t t_o0
      have hg := hg.tr hG
      refine lv_if_eq (tgt := 37) hx hb dX10_bind_30 (by decide) (fun c8 => ?_) (fun c8 => ?_)
      · replace h := h.1 c8
        refine lv_iconst (v := 0) hx hb dX10_bind_37 (by decide) ?_
        refine x_need (K := False) E F hw hst hnt hlk hA hg ⟨fun _ => h, fun e => e rfl⟩ ml_X10_122 ⟨by decide, by decide⟩ hl.1 (Nat.le_of_ble_eq_true rfl) dX10_bind_38 ⟨(Nat.le_of_ble_eq_true rfl), (Nat.le_of_ble_eq_true rfl)⟩ ⟨(Nat.le_of_ble_eq_true rfl), (Nat.le_of_ble_eq_true rfl)⟩ (fun z => z.elim)
      · replace h := h.2 c8
        refine lv_iconst (v := 1) hx hb dX10_bind_33 (by decide) ?_
        refine lv_goto (tgt := 38) hx hb dX10_bind_34 (by decide) ?_
        refine x_need (K := True) E F hw hst hnt hlk hA hg ⟨fun e => absurd e (by decide), fun _ => trivial⟩ ml_X10_122 ⟨by decide, by decide⟩ hl.1 (Nat.le_of_ble_eq_true rfl) dX10_bind_38 ⟨(Nat.le_of_ble_eq_true rfl), (Nat.le_of_ble_eq_true rfl)⟩ ⟨(Nat.le_of_ble_eq_true rfl), (Nat.le_of_ble_eq_true rfl)⟩ (fun _ H locs hw => ?_)
        obtain ⟨qq, h, hpo⟩ := h
        exact T41 o0 x1 x2 x3 x4 x5 q7.2 qq _ _ _ hpo (by rw [h]; rfl) hw hg t_o0 (lv_sub hl [0, 1, 2, 3, 4, 5] rfl)
def f_X10_order_t79 (u0 : Nat) (z1 : Int32) (z2 : Int32) (z3 : Int32) (z4 : Int32) (z5 : Int32) (z6 : Int32) (S3 : PS) : Option (Int64 × PS) :=
  (rk S3 (sR S3 u0 3) 8).bind fun b14 => (rk S3 (sR S3 b14 1) 13).bind fun b15 => if ib z3 (sN S3 b15) = true then (rk S3 (sR S3 u0 3) 8).bind fun b17 => (rk S3 (sR S3 b17 1) 13).bind fun b18 => if ib (z3 + (1 : Int32)) (sN S3 b18) = true then (f_X10_setQuestion u0 z3 z1 S3).bind fun q20 => (f_X10_setQuestion u0 (z3 + (1 : Int32)) z2 q20.2).bind fun q21 => (f_X10_valueAnew u0 z3 z4 z5 q21.2).bind fun q22 => (f_X10_setQuestion u0 z3 z2 q22.2).bind fun q23 => (f_X10_setQuestion u0 (z3 + (1 : Int32)) z1 q23.2).bind fun q24 => (f_X10_valueAnew u0 z3 z4 z5 q24.2).bind fun q25 => (f_X10_setQuestion u0 z3 (sI S3 b15 (Int32.toNatClampNeg z3)) q25.2).bind fun q26 => (f_X10_setQuestion u0 (z3 + (1 : Int32)) (sI S3 b18 (Int32.toNatClampNeg (z3 + (1 : Int32)))) q26.2).bind fun q27 => (f_X10_lowestTerms (q22.1 - q25.1) (7776 : Int64) z6 q27.2).bind fun q28 => some (q28.1, q28.2) else none else none
def g_X10_order (o0 : Nat) (x1 : Int32) (x2 : Int32) (x3 : Int32) (x4 : Int32) (x5 : Int32) (x6 : Int32) (S : PS) (post : Option Int64 → PS → Prop) : Prop :=
  ∃ b1, (rk S (sR S o0 3) 8) = some b1 ∧ (∃ b2, (rk S (sR S b1 0) 9) = some b2 ∧ (∃ q3, (f_X9_hasThing b2 x1 S) = some q3 ∧ (((q3.1 = (0 : Int32) → (post none q3.2)) ∧ (¬ q3.1 = (0 : Int32) → (∃ q5, (f_X9_hasThing b2 x2 q3.2) = some q5 ∧ (((q5.1 = (0 : Int32) → (post none q5.2)) ∧ (¬ q5.1 = (0 : Int32) → (((x1 = x2 → (post none q5.2)) ∧ (¬ x1 = x2 → (∃ q8, (f_X10_isPart x6 q5.2) = some q8 ∧ (((q8.1 = (0 : Int32) → (post none q8.2)) ∧ (¬ q8.1 = (0 : Int32) → (∃ q10, (f_X10_isScene o0 x3 x4 x5 q8.2) = some q10 ∧ (((q10.1 = (0 : Int32) → (post none q10.2)) ∧ (¬ q10.1 = (0 : Int32) → (∃ q12, (f_X9_hasSpring b2 (x3 + (1 : Int32)) q10.2) = some q12 ∧ (((q12.1 = (0 : Int32) → (post none q12.2)) ∧ (¬ q12.1 = (0 : Int32) → (∃ qq, f_X10_order_t79 o0 x1 x2 x3 x4 x5 x6 q12.2 = some qq ∧ post (some qq.1) qq.2)))))))))))))))))))))))))
set_option maxHeartbeats 4000000 in
set_option maxRecDepth 100000 in
theorem k_X10_order (l : Launch) (hst : l.stackTraces = false) (D : va_G) (cy : Nat → ClassId) (kc : Nat → Nat) (o0 : Nat) (x1 : Int32) (x2 : Int32) (x3 : Int32) (x4 : Int32) (x5 : Int32) (x6 : Int32) (S : PS) {post : Option Int64 → PS → Prop} (h : g_X10_order o0 x1 x2 x3 x4 x5 x6 S post) (t_o0 : tD S o0 10) : XJ l D cy kc yX10_order cX10_order 14 (rmK 9 294 2 12) [.ref o0, .int x1, .int x2, .int x3, .int x4, .int x5, .int x6] S post := by
  refine X_body (Qc := fun sz => GJ D cy S (fun r => post (some r)) sz) (XC := fun sz => XX D cy S (post none) sz) (by decide) (Nat.le_of_ble_eq_true rfl) ?_
  intro p e s m below meth c A ls args E hr hlk hnm hA F hw hl hnt
  have hx := E.1
  have hb := E.2.1
  have hl : lv_has ls 14 [(0, .ref o0), (1, .int x1), (2, .int x2), (3, .int x3), (4, .int x4), (5, .int x5), (6, .int x6)] := hl
  have hg : Gr S S := Gr.rf
  have T79 : ∀ (u0 : Nat) (z1 : Int32) (z2 : Int32) (z3 : Int32) (z4 : Int32) (z5 : Int32) (z6 : Int32) (S3 : PS) (qq : Int64 × PS) (H : Heap) (locs : List Loc) (ls : Array Slot), post (some qq.1) qq.2 → (f_X10_order_t79 u0 z1 z2 z3 z4 z5 z6 S3).bind some = some qq → Wd D cy A s H locs S3 → Gr S S3 → tD S3 u0 10 → lv_has ls 14 [(0, .ref u0), (1, .int z1), (2, .int z2), (3, .int z3), (4, .int z4), (5, .int z5), (6, .int z6)] → W p l e (rmK 9 294 2 12) s m args below meth c H locs 2 12 (vx_MQ below (GJ D cy S (fun r => post (some r)) s.heap.size) (XX D cy S (post none) s.heap.size) args s 2 12 A) (F0 m 79 ls []) := by
    intro u0 z1 z2 z3 z4 z5 z6 S3 qq H locs ls hpo h hw hg t_u0 hl
    rw [f_X10_order_t79] at h
    refine lv_aload_n hx hb dX10_order_79 rfl (lv_at hl 0 rfl) ?_
    obtain ⟨b14, r_b14, h⟩ := bb h
    obtain ⟨r_b14, t_b14⟩ := rk_some r_b14
    refine g_R E F hw t_u0 cf10 fk_X10_34 dX10_order_80 rfl r_b14 ?_
    obtain ⟨b15, r_b15, h⟩ := bb h
    obtain ⟨r_b15, t_b15⟩ := rk_some r_b15
    refine g_R E F hw t_b14 cf8 fk_X10_276 dX10_order_83 rfl r_b15 ?_
    refine lv_iload_n hx hb dX10_order_86 rfl (lv_at hl 3 rfl) ?_
    obtain ⟨c16, h⟩ := bg h
    refine a_i E F hw t_b15 c16 dX10_order_87 ?_
    refine lv_istore (lv' := [(8, .int (sI S3 b15 (Int32.toNatClampNeg z3))), (0, .ref u0), (1, .int z1), (2, .int z2), (3, .int z3), (4, .int z4), (5, .int z5), (6, .int z6)]) hx hb dX10_order_88 hl (by decide) rfl (fun ls hl => ?_)
    refine lv_aload_n hx hb dX10_order_90 rfl (lv_at hl 1 rfl) ?_
    obtain ⟨b17, r_b17, h⟩ := bb h
    obtain ⟨r_b17, t_b17⟩ := rk_some r_b17
    refine g_R E F hw t_u0 cf10 fk_X10_34 dX10_order_91 rfl r_b17 ?_
    obtain ⟨b18, r_b18, h⟩ := bb h
    obtain ⟨r_b18, t_b18⟩ := rk_some r_b18
    refine g_R E F hw t_b17 cf8 fk_X10_276 dX10_order_94 rfl r_b18 ?_
    refine lv_iload_n hx hb dX10_order_97 rfl (lv_at hl 4 rfl) ?_
    refine lv_iconst (v := 1) hx hb dX10_order_98 (by decide) ?_
    refine lv_iadd hx hb dX10_order_99 ?_
    obtain ⟨c19, h⟩ := bg h
    refine a_i E F hw t_b18 c19 dX10_order_100 ?_
    refine lv_istore (lv' := [(9, .int (sI S3 b18 (Int32.toNatClampNeg (z3 + (1 : Int32))))), (8, .int (sI S3 b15 (Int32.toNatClampNeg z3))), (0, .ref u0), (1, .int z1), (2, .int z2), (3, .int z3), (4, .int z4), (5, .int z5), (6, .int z6)]) hx hb dX10_order_101 hl (by decide) rfl (fun ls hl => ?_)
    refine lv_aload_n hx hb dX10_order_103 rfl (lv_at hl 2 rfl) ?_
    refine lv_iload_n hx hb dX10_order_104 rfl (lv_at hl 5 rfl) ?_
    refine lv_iload_n hx hb dX10_order_105 rfl (lv_at hl 3 rfl) ?_
    obtain ⟨q20, h_q20, h⟩ := bb h
    refine z_VV E F hw [.int z3, .int z1] (k_X10_setQuestion l D cy kc u0 z3 z1 S3 h_q20 t_u0) t_u0 cf10 mk_X10_setQuestion vk_X10_setQuestion ml_X10_172 ⟨by decide, by decide⟩ rfl hl.1 rfl (Nat.le_of_ble_eq_true rfl) dX10_order_106 ⟨(Nat.le_of_ble_eq_true rfl), (Nat.le_of_ble_eq_true rfl)⟩ (fun H locs hw hG => ?_)
    have t_u0 := hG.t t_u0
    have hg := hg.tr hG
    refine lv_aload_n hx hb dX10_order_109 rfl (lv_at hl 2 rfl) ?_
    refine lv_iload_n hx hb dX10_order_110 rfl (lv_at hl 5 rfl) ?_
    refine lv_iconst (v := 1) hx hb dX10_order_111 (by decide) ?_
    refine lv_iadd hx hb dX10_order_112 ?_
    refine lv_iload_n hx hb dX10_order_113 rfl (lv_at hl 4 rfl) ?_
    obtain ⟨q21, h_q21, h⟩ := bb h
    refine z_VV E F hw [.int (z3 + (1 : Int32)), .int z2] (k_X10_setQuestion l D cy kc u0 (z3 + (1 : Int32)) z2 q20.2 h_q21 t_u0) t_u0 cf10 mk_X10_setQuestion vk_X10_setQuestion ml_X10_172 ⟨by decide, by decide⟩ rfl hl.1 rfl (Nat.le_of_ble_eq_true rfl) dX10_order_114 ⟨(Nat.le_of_ble_eq_true rfl), (Nat.le_of_ble_eq_true rfl)⟩ (fun H locs hw hG => ?_)
    have t_u0 := hG.t t_u0
    have hg := hg.tr hG
    refine lv_aload_n hx hb dX10_order_117 rfl (lv_at hl 2 rfl) ?_
    refine lv_iload_n hx hb dX10_order_118 rfl (lv_at hl 5 rfl) ?_
    refine lv_iload hx hb dX10_order_119 (lv_at hl 6 rfl) ?_
    refine lv_iload hx hb dX10_order_121 (lv_at hl 7 rfl) ?_
    obtain ⟨q22, h_q22, h⟩ := bb h
    refine z_VJ E F hw [.int z3, .int z4, .int z5] (k_X10_valueAnew l D cy kc u0 z3 z4 z5 q21.2 h_q22 t_u0) t_u0 cf10 mk_X10_valueAnew vk_X10_valueAnew ml_X10_273 ⟨by decide, by decide⟩ rfl hl.1 rfl (Nat.le_of_ble_eq_true rfl) dX10_order_123 ⟨(Nat.le_of_ble_eq_true rfl), (Nat.le_of_ble_eq_true rfl)⟩ (fun H locs hw hG => ?_)
    have t_u0 := hG.t t_u0
    have hg := hg.tr hG
    refine lv_lstore (lv' := [(10, .long q22.1), (9, .int (sI S3 b18 (Int32.toNatClampNeg (z3 + (1 : Int32))))), (8, .int (sI S3 b15 (Int32.toNatClampNeg z3))), (0, .ref u0), (1, .int z1), (2, .int z2), (3, .int z3), (4, .int z4), (5, .int z5), (6, .int z6)]) hx hb dX10_order_126 hl (by decide) rfl (fun ls hl => ?_)
    refine lv_aload_n hx hb dX10_order_128 rfl (lv_at hl 3 rfl) ?_
    refine lv_iload_n hx hb dX10_order_129 rfl (lv_at hl 6 rfl) ?_
    refine lv_iload_n hx hb dX10_order_130 rfl (lv_at hl 5 rfl) ?_
    obtain ⟨q23, h_q23, h⟩ := bb h
    refine z_VV E F hw [.int z3, .int z2] (k_X10_setQuestion l D cy kc u0 z3 z2 q22.2 h_q23 t_u0) t_u0 cf10 mk_X10_setQuestion vk_X10_setQuestion ml_X10_172 ⟨by decide, by decide⟩ rfl hl.1 rfl (Nat.le_of_ble_eq_true rfl) dX10_order_131 ⟨(Nat.le_of_ble_eq_true rfl), (Nat.le_of_ble_eq_true rfl)⟩ (fun H locs hw hG => ?_)
    have t_u0 := hG.t t_u0
    have hg := hg.tr hG
    refine lv_aload_n hx hb dX10_order_134 rfl (lv_at hl 3 rfl) ?_
    refine lv_iload_n hx hb dX10_order_135 rfl (lv_at hl 6 rfl) ?_
    refine lv_iconst (v := 1) hx hb dX10_order_136 (by decide) ?_
    refine lv_iadd hx hb dX10_order_137 ?_
    refine lv_iload_n hx hb dX10_order_138 rfl (lv_at hl 4 rfl) ?_
    obtain ⟨q24, h_q24, h⟩ := bb h
    refine z_VV E F hw [.int (z3 + (1 : Int32)), .int z1] (k_X10_setQuestion l D cy kc u0 (z3 + (1 : Int32)) z1 q23.2 h_q24 t_u0) t_u0 cf10 mk_X10_setQuestion vk_X10_setQuestion ml_X10_172 ⟨by decide, by decide⟩ rfl hl.1 rfl (Nat.le_of_ble_eq_true rfl) dX10_order_139 ⟨(Nat.le_of_ble_eq_true rfl), (Nat.le_of_ble_eq_true rfl)⟩ (fun H locs hw hG => ?_)
    have t_u0 := hG.t t_u0
    have hg := hg.tr hG
    refine lv_aload_n hx hb dX10_order_142 rfl (lv_at hl 3 rfl) ?_
    refine lv_iload_n hx hb dX10_order_143 rfl (lv_at hl 6 rfl) ?_
    refine lv_iload hx hb dX10_order_144 (lv_at hl 7 rfl) ?_
    refine lv_iload hx hb dX10_order_146 (lv_at hl 8 rfl) ?_
    obtain ⟨q25, h_q25, h⟩ := bb h
    refine z_VJ E F hw [.int z3, .int z4, .int z5] (k_X10_valueAnew l D cy kc u0 z3 z4 z5 q24.2 h_q25 t_u0) t_u0 cf10 mk_X10_valueAnew vk_X10_valueAnew ml_X10_273 ⟨by decide, by decide⟩ rfl hl.1 rfl (Nat.le_of_ble_eq_true rfl) dX10_order_148 ⟨(Nat.le_of_ble_eq_true rfl), (Nat.le_of_ble_eq_true rfl)⟩ (fun H locs hw hG => ?_)
    have t_u0 := hG.t t_u0
    have hg := hg.tr hG
    refine lv_lstore (lv' := [(12, .long q25.1), (10, .long q22.1), (9, .int (sI S3 b18 (Int32.toNatClampNeg (z3 + (1 : Int32))))), (8, .int (sI S3 b15 (Int32.toNatClampNeg z3))), (0, .ref u0), (1, .int z1), (2, .int z2), (3, .int z3), (4, .int z4), (5, .int z5), (6, .int z6)]) hx hb dX10_order_151 hl (by decide) rfl (fun ls hl => ?_)
    refine lv_aload_n hx hb dX10_order_153 rfl (lv_at hl 4 rfl) ?_
    refine lv_iload_n hx hb dX10_order_154 rfl (lv_at hl 7 rfl) ?_
    refine lv_iload hx hb dX10_order_155 (lv_at hl 3 rfl) ?_
    obtain ⟨q26, h_q26, h⟩ := bb h
    refine z_VV E F hw [.int z3, .int (sI S3 b15 (Int32.toNatClampNeg z3))] (k_X10_setQuestion l D cy kc u0 z3 (sI S3 b15 (Int32.toNatClampNeg z3)) q25.2 h_q26 t_u0) t_u0 cf10 mk_X10_setQuestion vk_X10_setQuestion ml_X10_172 ⟨by decide, by decide⟩ rfl hl.1 rfl (Nat.le_of_ble_eq_true rfl) dX10_order_157 ⟨(Nat.le_of_ble_eq_true rfl), (Nat.le_of_ble_eq_true rfl)⟩ (fun H locs hw hG => ?_)
    have t_u0 := hG.t t_u0
    have hg := hg.tr hG
    refine lv_aload_n hx hb dX10_order_160 rfl (lv_at hl 4 rfl) ?_
    refine lv_iload_n hx hb dX10_order_161 rfl (lv_at hl 7 rfl) ?_
    refine lv_iconst (v := 1) hx hb dX10_order_162 (by decide) ?_
    refine lv_iadd hx hb dX10_order_163 ?_
    refine lv_iload hx hb dX10_order_164 (lv_at hl 2 rfl) ?_
    obtain ⟨q27, h_q27, h⟩ := bb h
    refine z_VV E F hw [.int (z3 + (1 : Int32)), .int (sI S3 b18 (Int32.toNatClampNeg (z3 + (1 : Int32))))] (k_X10_setQuestion l D cy kc u0 (z3 + (1 : Int32)) (sI S3 b18 (Int32.toNatClampNeg (z3 + (1 : Int32)))) q26.2 h_q27 t_u0) t_u0 cf10 mk_X10_setQuestion vk_X10_setQuestion ml_X10_172 ⟨by decide, by decide⟩ rfl hl.1 rfl (Nat.le_of_ble_eq_true rfl) dX10_order_166 ⟨(Nat.le_of_ble_eq_true rfl), (Nat.le_of_ble_eq_true rfl)⟩ (fun H locs hw hG => ?_)
    have t_u0 := hG.t t_u0
    have hg := hg.tr hG
    refine lv_lload hx hb dX10_order_169 (lv_at hl 1 rfl) ?_
    refine lv_lload hx hb dX10_order_171 (lv_at hl 0 rfl) ?_
    refine lv_lsub hx hb dX10_order_173 ?_
    refine lv_ldc2 hx hb E.2.2.2.1 (E.2.2.2.2 _ kl_X10_166) dX10_order_174 ?_
    refine lv_iload hx hb dX10_order_177 (lv_at hl 10 rfl) ?_
    obtain ⟨q28, h_q28, h⟩ := bb h
    refine z_SJ E F hw [.long (q22.1 - q25.1), .long (7776 : Int64), .int z6] (k_X10_lowestTerms l D cy kc (q22.1 - q25.1) (7776 : Int64) z6 q27.2 h_q28) mk_X10_lowestTerms sk_X10_lowestTerms ml_X10_168 ⟨by decide, by decide⟩ rfl hl.1 rfl (Nat.le_of_ble_eq_true rfl) dX10_order_179 ⟨(Nat.le_of_ble_eq_true rfl), (Nat.le_of_ble_eq_true rfl)⟩ (fun H locs hw hG => ?_)
    have t_u0 := hG.t t_u0
    have hg := hg.tr hG
    obtain rfl := Option.some.inj h
    exact vx_ret (h_J E hr hlk F hA hw hg hpo (Nat.le_of_ble_eq_true rfl) (Nat.le_of_ble_eq_true rfl) dX10_order_182)
  rw [g_X10_order] at h
  refine lv_aload_n hx hb dX10_order_0 rfl (lv_at hl 0 rfl) ?_
  obtain ⟨b1, r_b1, h⟩ := h
  obtain ⟨r_b1, t_b1⟩ := rk_some r_b1
  refine g_R E F hw t_o0 cf10 fk_X10_34 dX10_order_1 rfl r_b1 ?_
  obtain ⟨b2, r_b2, h⟩ := h
  obtain ⟨r_b2, t_b2⟩ := rk_some r_b2
  refine g_R E F hw t_b1 cf8 fk_X10_81 dX10_order_4 rfl r_b2 ?_
  refine lv_astore (lv' := [(7, .ref b2), (0, .ref o0), (1, .int x1), (2, .int x2), (3, .int x3), (4, .int x4), (5, .int x5), (6, .int x6)]) hx hb dX10_order_7 hl (by decide) rfl (fun ls hl => ?_)
  refine lv_aload hx hb dX10_order_9 (lv_at hl 0 rfl) ?_
  refine lv_iload_n hx hb dX10_order_11 rfl (lv_at hl 2 rfl) ?_
  obtain ⟨q3, h_q3, h⟩ := h
  refine z_VI E F hw [.int x1] (k_X9_hasThing l D cy kc b2 x1 S h_q3 t_b2) t_b2 cf9 mk_X9_hasThing vk_X9_hasThing ml_X10_99 ⟨by decide, by decide⟩ rfl hl.1 rfl (Nat.le_of_ble_eq_true rfl) dX10_order_12 ⟨(Nat.le_of_ble_eq_true rfl), (Nat.le_of_ble_eq_true rfl)⟩ (fun H locs hw hG => ?_)
  have t_o0 := hG.t t_o0
  have t_b2 := hG.t t_b2
  have hg := hg.tr hG
  refine lv_if_eq (tgt := 44) hx hb dX10_order_15 (by decide) (fun c4 => ?_) (fun c4 => ?_)
  · replace h := h.1 c4
    refine lv_iconst (v := 0) hx hb dX10_order_44 (by decide) ?_
    refine x_need (K := False) E F hw hst hnt hlk hA hg ⟨fun _ => h, fun e => e rfl⟩ ml_X10_122 ⟨by decide, by decide⟩ hl.1 (Nat.le_of_ble_eq_true rfl) dX10_order_45 ⟨(Nat.le_of_ble_eq_true rfl), (Nat.le_of_ble_eq_true rfl)⟩ ⟨(Nat.le_of_ble_eq_true rfl), (Nat.le_of_ble_eq_true rfl)⟩ (fun z => z.elim)
  · replace h := h.2 c4
    refine lv_aload hx hb dX10_order_18 (lv_at hl 0 rfl) ?_
    refine lv_iload_n hx hb dX10_order_20 rfl (lv_at hl 3 rfl) ?_
    obtain ⟨q5, h_q5, h⟩ := h
    refine z_VI E F hw [.int x2] (k_X9_hasThing l D cy kc b2 x2 q3.2 h_q5 t_b2) t_b2 cf9 mk_X9_hasThing vk_X9_hasThing ml_X10_99 ⟨by decide, by decide⟩ rfl hl.1 rfl (Nat.le_of_ble_eq_true rfl) dX10_order_21 ⟨(Nat.le_of_ble_eq_true rfl), (Nat.le_of_ble_eq_true rfl)⟩ (fun H locs hw hG => ?_)
    have t_o0 := hG.t t_o0
    have t_b2 := hG.t t_b2
    have hg := hg.tr hG
    refine lv_if_eq (tgt := 44) hx hb dX10_order_24 (by decide) (fun c6 => ?_) (fun c6 => ?_)
    · replace h := h.1 c6
      refine lv_iconst (v := 0) hx hb dX10_order_44 (by decide) ?_
      refine x_need (K := False) E F hw hst hnt hlk hA hg ⟨fun _ => h, fun e => e rfl⟩ ml_X10_122 ⟨by decide, by decide⟩ hl.1 (Nat.le_of_ble_eq_true rfl) dX10_order_45 ⟨(Nat.le_of_ble_eq_true rfl), (Nat.le_of_ble_eq_true rfl)⟩ ⟨(Nat.le_of_ble_eq_true rfl), (Nat.le_of_ble_eq_true rfl)⟩ (fun z => z.elim)
    · replace h := h.2 c6
      refine lv_iload_n hx hb dX10_order_27 rfl (lv_at hl 2 rfl) ?_
      refine lv_iload_n hx hb dX10_order_28 rfl (lv_at hl 3 rfl) ?_
      refine lv_icmp_eq (tgt := 44) hx hb dX10_order_29 (by decide) (fun c7 => ?_) (fun c7 => ?_)
      · replace h := h.1 c7
        refine lv_iconst (v := 0) hx hb dX10_order_44 (by decide) ?_
        refine x_need (K := False) E F hw hst hnt hlk hA hg ⟨fun _ => h, fun e => e rfl⟩ ml_X10_122 ⟨by decide, by decide⟩ hl.1 (Nat.le_of_ble_eq_true rfl) dX10_order_45 ⟨(Nat.le_of_ble_eq_true rfl), (Nat.le_of_ble_eq_true rfl)⟩ ⟨(Nat.le_of_ble_eq_true rfl), (Nat.le_of_ble_eq_true rfl)⟩ (fun z => z.elim)
      · replace h := h.2 c7
        refine lv_iload hx hb dX10_order_32 (lv_at hl 7 rfl) ?_
        obtain ⟨q8, h_q8, h⟩ := h
        refine z_SI E F hw [.int x6] (k_X10_isPart l D cy kc x6 q5.2 h_q8) mk_X10_isPart sk_X10_isPart ml_X10_159 ⟨by decide, by decide⟩ rfl hl.1 rfl (Nat.le_of_ble_eq_true rfl) dX10_order_34 ⟨(Nat.le_of_ble_eq_true rfl), (Nat.le_of_ble_eq_true rfl)⟩ (fun H locs hw hG => ?_)
        have t_o0 := hG.t t_o0
        have t_b2 := hG.t t_b2
        have hg := hg.tr hG
        refine lv_if_eq (tgt := 44) hx hb dX10_order_37 (by decide) (fun c9 => ?_) (fun c9 => ?_)
        · replace h := h.1 c9
          refine lv_iconst (v := 0) hx hb dX10_order_44 (by decide) ?_
          refine x_need (K := False) E F hw hst hnt hlk hA hg ⟨fun _ => h, fun e => e rfl⟩ ml_X10_122 ⟨by decide, by decide⟩ hl.1 (Nat.le_of_ble_eq_true rfl) dX10_order_45 ⟨(Nat.le_of_ble_eq_true rfl), (Nat.le_of_ble_eq_true rfl)⟩ ⟨(Nat.le_of_ble_eq_true rfl), (Nat.le_of_ble_eq_true rfl)⟩ (fun z => z.elim)
        · replace h := h.2 c9
          refine lv_iconst (v := 1) hx hb dX10_order_40 (by decide) ?_
          refine lv_goto (tgt := 45) hx hb dX10_order_41 (by decide) ?_
          refine x_need (K := True) E F hw hst hnt hlk hA hg ⟨fun e => absurd e (by decide), fun _ => trivial⟩ ml_X10_122 ⟨by decide, by decide⟩ hl.1 (Nat.le_of_ble_eq_true rfl) dX10_order_45 ⟨(Nat.le_of_ble_eq_true rfl), (Nat.le_of_ble_eq_true rfl)⟩ ⟨(Nat.le_of_ble_eq_true rfl), (Nat.le_of_ble_eq_true rfl)⟩ (fun _ H locs hw => ?_)
          refine lv_aload_n hx hb dX10_order_48 rfl (lv_at hl 1 rfl) ?_
          refine lv_iload_n hx hb dX10_order_49 rfl (lv_at hl 4 rfl) ?_
          refine lv_iload hx hb dX10_order_50 (lv_at hl 5 rfl) ?_
          refine lv_iload hx hb dX10_order_52 (lv_at hl 6 rfl) ?_
          obtain ⟨q10, h_q10, h⟩ := h
          refine z_VI E F hw [.int x3, .int x4, .int x5] (k_X10_isScene l D cy kc o0 x3 x4 x5 q8.2 h_q10 t_o0) t_o0 cf10 mk_X10_isScene vk_X10_isScene ml_X10_144 ⟨by decide, by decide⟩ rfl hl.1 rfl (Nat.le_of_ble_eq_true rfl) dX10_order_54 ⟨(Nat.le_of_ble_eq_true rfl), (Nat.le_of_ble_eq_true rfl)⟩ (fun H locs hw hG => ?_)
          have t_o0 := hG.t t_o0
          have t_b2 := hG.t t_b2
          have hg := hg.tr hG
          refine lv_if_eq (tgt := 75) hx hb dX10_order_57 (by decide) (fun c11 => ?_) (fun c11 => ?_)
          · replace h := h.1 c11
            refine lv_iconst (v := 0) hx hb dX10_order_75 (by decide) ?_
            refine x_need (K := False) E F hw hst hnt hlk hA hg ⟨fun _ => h, fun e => e rfl⟩ ml_X10_122 ⟨by decide, by decide⟩ hl.1 (Nat.le_of_ble_eq_true rfl) dX10_order_76 ⟨(Nat.le_of_ble_eq_true rfl), (Nat.le_of_ble_eq_true rfl)⟩ ⟨(Nat.le_of_ble_eq_true rfl), (Nat.le_of_ble_eq_true rfl)⟩ (fun z => z.elim)
          · replace h := h.2 c11
            refine lv_aload hx hb dX10_order_60 (lv_at hl 0 rfl) ?_
            refine lv_iload_n hx hb dX10_order_62 rfl (lv_at hl 4 rfl) ?_
            refine lv_iconst (v := 1) hx hb dX10_order_63 (by decide) ?_
            refine lv_iadd hx hb dX10_order_64 ?_
            obtain ⟨q12, h_q12, h⟩ := h
            refine z_VI E F hw [.int (x3 + (1 : Int32))] (k_X9_hasSpring l D cy kc b2 (x3 + (1 : Int32)) q10.2 h_q12 t_b2) t_b2 cf9 mk_X9_hasSpring vk_X9_hasSpring ml_X10_133 ⟨by decide, by decide⟩ rfl hl.1 rfl (Nat.le_of_ble_eq_true rfl) dX10_order_65 ⟨(Nat.le_of_ble_eq_true rfl), (Nat.le_of_ble_eq_true rfl)⟩ (fun H locs hw hG => ?_)
            have t_o0 := hG.t t_o0
            have t_b2 := hG.t t_b2
            have hg := hg.tr hG
            refine lv_if_eq (tgt := 75) hx hb dX10_order_68 (by decide) (fun c13 => ?_) (fun c13 => ?_)
            · replace h := h.1 c13
              refine lv_iconst (v := 0) hx hb dX10_order_75 (by decide) ?_
              refine x_need (K := False) E F hw hst hnt hlk hA hg ⟨fun _ => h, fun e => e rfl⟩ ml_X10_122 ⟨by decide, by decide⟩ hl.1 (Nat.le_of_ble_eq_true rfl) dX10_order_76 ⟨(Nat.le_of_ble_eq_true rfl), (Nat.le_of_ble_eq_true rfl)⟩ ⟨(Nat.le_of_ble_eq_true rfl), (Nat.le_of_ble_eq_true rfl)⟩ (fun z => z.elim)
            · replace h := h.2 c13
              refine lv_iconst (v := 1) hx hb dX10_order_71 (by decide) ?_
              refine lv_goto (tgt := 76) hx hb dX10_order_72 (by decide) ?_
              refine x_need (K := True) E F hw hst hnt hlk hA hg ⟨fun e => absurd e (by decide), fun _ => trivial⟩ ml_X10_122 ⟨by decide, by decide⟩ hl.1 (Nat.le_of_ble_eq_true rfl) dX10_order_76 ⟨(Nat.le_of_ble_eq_true rfl), (Nat.le_of_ble_eq_true rfl)⟩ ⟨(Nat.le_of_ble_eq_true rfl), (Nat.le_of_ble_eq_true rfl)⟩ (fun _ H locs hw => ?_)
              obtain ⟨qq, h, hpo⟩ := h
              exact T79 o0 x1 x2 x3 x4 x5 x6 q12.2 qq _ _ _ hpo (by rw [h]; rfl) hw hg t_o0 (lv_sub hl [1, 2, 3, 4, 5, 6, 7] rfl)
def f_X10_century_t42 (u0 : Nat) (z1 : Int32) (z2 : Int32) (z3 : Int32) (z4 : Int32) (S3 : PS) : Option (Int32 × PS) :=
  (rk S3 (sR S3 u0 7) 0).bind fun b9 => (f_X0_run b9 z1 z2 S3).bind fun q10 => (if z4 = 0 then (rk q10.2 (sR q10.2 u0 7) 0).bind fun b11 => (rk q10.2 (sR q10.2 b11 5) 13).bind fun b12 => if ib z3 (sN q10.2 b12) = true then some ((sI q10.2 b12 (Int32.toNatClampNeg z3)), q10.2) else none else if z4 = 1 then (rk q10.2 (sR q10.2 u0 7) 0).bind fun b15 => (rk q10.2 (sR q10.2 b15 2) 13).bind fun b16 => if ib z3 (sN q10.2 b16) = true then some ((sI q10.2 b16 (Int32.toNatClampNeg z3)), q10.2) else none else if z4 = 2 then (rk q10.2 (sR q10.2 u0 7) 0).bind fun b19 => (rk q10.2 (sR q10.2 b19 3) 13).bind fun b20 => if ib z3 (sN q10.2 b20) = true then some ((sI q10.2 b20 (Int32.toNatClampNeg z3)), q10.2) else none else (rk q10.2 (sR q10.2 u0 7) 0).bind fun b23 => (rk q10.2 (sR q10.2 b23 4) 13).bind fun b24 => if ib z3 (sN q10.2 b24) = true then some ((sI q10.2 b24 (Int32.toNatClampNeg z3)), q10.2) else none)
def g_X10_century (o0 : Nat) (x1 : Int32) (x2 : Int32) (x3 : Int32) (x4 : Int32) (S : PS) (post : Option Int32 → PS → Prop) : Prop :=
  ∃ q1, (f_X10_isCentury o0 x1 x2 S) = some q1 ∧ (((q1.1 = (0 : Int32) → (post none q1.2)) ∧ (¬ q1.1 = (0 : Int32) → (∃ b3, (rk q1.2 (sR q1.2 o0 3) 8) = some b3 ∧ (∃ b4, (rk q1.2 (sR q1.2 b3 0) 9) = some b4 ∧ (∃ q5, (f_X9_hasSpring b4 x3 q1.2) = some q5 ∧ (((q5.1 = (0 : Int32) → (post none q5.2)) ∧ (¬ q5.1 = (0 : Int32) → (((x4 < (0 : Int32) → (post none q5.2)) ∧ (¬ x4 < (0 : Int32) → ((((3 : Int32) < x4 → (post none q5.2)) ∧ (¬ (3 : Int32) < x4 → (∃ qq, f_X10_century_t42 o0 x1 x2 x3 x4 q5.2 = some qq ∧ post (some qq.1) qq.2))))))))))))))))
set_option maxHeartbeats 4000000 in
set_option maxRecDepth 100000 in
theorem k_X10_century (l : Launch) (hst : l.stackTraces = false) (D : va_G) (cy : Nat → ClassId) (kc : Nat → Nat) (o0 : Nat) (x1 : Int32) (x2 : Int32) (x3 : Int32) (x4 : Int32) (S : PS) {post : Option Int32 → PS → Prop} (h : g_X10_century o0 x1 x2 x3 x4 S post) (t_o0 : tD S o0 10) : XI l D cy kc yX10_century cX10_century 5 .int (rmK 9 296 1 6) [.ref o0, .int x1, .int x2, .int x3, .int x4] S post := by
  refine X_body (Qc := fun sz => GI D cy S (fun r => post (some r)) sz) (XC := fun sz => XX D cy S (post none) sz) (by decide) (Nat.le_of_ble_eq_true rfl) ?_
  intro p e s m below meth c A ls args E hr hlk hnm hA F hw hl hnt
  have hx := E.1
  have hb := E.2.1
  have hl : lv_has ls 5 [(0, .ref o0), (1, .int x1), (2, .int x2), (3, .int x3), (4, .int x4)] := hl
  have hg : Gr S S := Gr.rf
  have T42 : ∀ (u0 : Nat) (z1 : Int32) (z2 : Int32) (z3 : Int32) (z4 : Int32) (S3 : PS) (qq : Int32 × PS) (H : Heap) (locs : List Loc) (ls : Array Slot), post (some qq.1) qq.2 → (f_X10_century_t42 u0 z1 z2 z3 z4 S3).bind some = some qq → Wd D cy A s H locs S3 → Gr S S3 → tD S3 u0 10 → lv_has ls 5 [(0, .ref u0), (1, .int z1), (2, .int z2), (3, .int z3), (4, .int z4)] → W p l e (rmK 9 296 1 6) s m args below meth c H locs 1 6 (vx_MQ below (GI D cy S (fun r => post (some r)) s.heap.size) (XX D cy S (post none) s.heap.size) args s 1 6 A) (F0 m 42 ls []) := by
    intro u0 z1 z2 z3 z4 S3 qq H locs ls hpo h hw hg t_u0 hl
    rw [f_X10_century_t42] at h
    refine lv_aload_n hx hb dX10_century_42 rfl (lv_at hl 0 rfl) ?_
    obtain ⟨b9, r_b9, h⟩ := bb h
    obtain ⟨r_b9, t_b9⟩ := rk_some r_b9
    refine g_R E F hw t_u0 cf10 fk_X10_63 dX10_century_43 rfl r_b9 ?_
    refine lv_iload_n hx hb dX10_century_46 rfl (lv_at hl 1 rfl) ?_
    refine lv_iload_n hx hb dX10_century_47 rfl (lv_at hl 2 rfl) ?_
    obtain ⟨q10, h_q10, h⟩ := bb h
    refine z_VV E F hw [.int z1, .int z2] (k_X0_run l D cy kc b9 z1 z2 S3 h_q10 t_b9) t_b9 cf0 mk_X0_run vk_X0_run ml_X10_282 ⟨by decide, by decide⟩ rfl hl.1 rfl (Nat.le_of_ble_eq_true rfl) dX10_century_48 ⟨(Nat.le_of_ble_eq_true rfl), (Nat.le_of_ble_eq_true rfl)⟩ (fun H locs hw hG => ?_)
    have t_u0 := hG.t t_u0
    have hg := hg.tr hG
    refine lv_iload hx hb dX10_century_51 (lv_at hl 4 rfl) ?_
    by_cases c14 : z4 = 0
    · rw [if_pos c14] at h
      refine lv_tableIn (tgt := 80) hx hb dX10_century_53 (by rw [c14]; decide) (by rw [c14]; decide) (by rw [c14]; rfl) (by decide) ?_
      refine lv_aload_n hx hb dX10_century_80 rfl (lv_at hl 0 rfl) ?_
      obtain ⟨b11, r_b11, h⟩ := bb h
      obtain ⟨r_b11, t_b11⟩ := rk_some r_b11
      refine g_R E F hw t_u0 cf10 fk_X10_63 dX10_century_81 rfl r_b11 ?_
      obtain ⟨b12, r_b12, h⟩ := bb h
      obtain ⟨r_b12, t_b12⟩ := rk_some r_b12
      refine g_R E F hw t_b11 cf0 fk_X10_285 dX10_century_84 rfl r_b12 ?_
      refine lv_iload_n hx hb dX10_century_87 rfl (lv_at hl 3 rfl) ?_
      obtain ⟨c13, h⟩ := bg h
      refine a_i E F hw t_b12 c13 dX10_century_88 ?_
      obtain rfl := Option.some.inj h
      exact vx_ret (h_I E hr hlk F hA hw hg hpo (Nat.le_of_ble_eq_true rfl) (Nat.le_of_ble_eq_true rfl) dX10_century_89)
    rw [if_neg c14] at h
    by_cases c18 : z4 = 1
    · rw [if_pos c18] at h
      refine lv_tableIn (tgt := 90) hx hb dX10_century_53 (by rw [c18]; decide) (by rw [c18]; decide) (by rw [c18]; rfl) (by decide) ?_
      refine lv_aload_n hx hb dX10_century_90 rfl (lv_at hl 0 rfl) ?_
      obtain ⟨b15, r_b15, h⟩ := bb h
      obtain ⟨r_b15, t_b15⟩ := rk_some r_b15
      refine g_R E F hw t_u0 cf10 fk_X10_63 dX10_century_91 rfl r_b15 ?_
      obtain ⟨b16, r_b16, h⟩ := bb h
      obtain ⟨r_b16, t_b16⟩ := rk_some r_b16
      refine g_R E F hw t_b15 cf0 fk_X10_288 dX10_century_94 rfl r_b16 ?_
      refine lv_iload_n hx hb dX10_century_97 rfl (lv_at hl 3 rfl) ?_
      obtain ⟨c17, h⟩ := bg h
      refine a_i E F hw t_b16 c17 dX10_century_98 ?_
      obtain rfl := Option.some.inj h
      exact vx_ret (h_I E hr hlk F hA hw hg hpo (Nat.le_of_ble_eq_true rfl) (Nat.le_of_ble_eq_true rfl) dX10_century_99)
    rw [if_neg c18] at h
    by_cases c22 : z4 = 2
    · rw [if_pos c22] at h
      refine lv_tableIn (tgt := 100) hx hb dX10_century_53 (by rw [c22]; decide) (by rw [c22]; decide) (by rw [c22]; rfl) (by decide) ?_
      refine lv_aload_n hx hb dX10_century_100 rfl (lv_at hl 0 rfl) ?_
      obtain ⟨b19, r_b19, h⟩ := bb h
      obtain ⟨r_b19, t_b19⟩ := rk_some r_b19
      refine g_R E F hw t_u0 cf10 fk_X10_63 dX10_century_101 rfl r_b19 ?_
      obtain ⟨b20, r_b20, h⟩ := bb h
      obtain ⟨r_b20, t_b20⟩ := rk_some r_b20
      refine g_R E F hw t_b19 cf0 fk_X10_291 dX10_century_104 rfl r_b20 ?_
      refine lv_iload_n hx hb dX10_century_107 rfl (lv_at hl 3 rfl) ?_
      obtain ⟨c21, h⟩ := bg h
      refine a_i E F hw t_b20 c21 dX10_century_108 ?_
      obtain rfl := Option.some.inj h
      exact vx_ret (h_I E hr hlk F hA hw hg hpo (Nat.le_of_ble_eq_true rfl) (Nat.le_of_ble_eq_true rfl) dX10_century_109)
    rw [if_neg c22] at h
    refine lv_tableOut (tgt := 110) hx hb dX10_century_53 (by have n0 := ne_toInt (n := 0) (z := 0) c14 (by decide); have n1 := ne_toInt (n := 1) (z := 1) c18 (by decide); have n2 := ne_toInt (n := 2) (z := 2) c22 (by decide); omega) (by decide) ?_
    refine lv_aload_n hx hb dX10_century_110 rfl (lv_at hl 0 rfl) ?_
    obtain ⟨b23, r_b23, h⟩ := bb h
    obtain ⟨r_b23, t_b23⟩ := rk_some r_b23
    refine g_R E F hw t_u0 cf10 fk_X10_63 dX10_century_111 rfl r_b23 ?_
    obtain ⟨b24, r_b24, h⟩ := bb h
    obtain ⟨r_b24, t_b24⟩ := rk_some r_b24
    refine g_R E F hw t_b23 cf0 fk_X10_294 dX10_century_114 rfl r_b24 ?_
    refine lv_iload_n hx hb dX10_century_117 rfl (lv_at hl 3 rfl) ?_
    obtain ⟨c25, h⟩ := bg h
    refine a_i E F hw t_b24 c25 dX10_century_118 ?_
    obtain rfl := Option.some.inj h
    exact vx_ret (h_I E hr hlk F hA hw hg hpo (Nat.le_of_ble_eq_true rfl) (Nat.le_of_ble_eq_true rfl) dX10_century_119)
  rw [g_X10_century] at h
  refine lv_aload_n hx hb dX10_century_0 rfl (lv_at hl 0 rfl) ?_
  refine lv_iload_n hx hb dX10_century_1 rfl (lv_at hl 1 rfl) ?_
  refine lv_iload_n hx hb dX10_century_2 rfl (lv_at hl 2 rfl) ?_
  obtain ⟨q1, h_q1, h⟩ := h
  refine z_VI E F hw [.int x1, .int x2] (k_X10_isCentury l D cy kc o0 x1 x2 S h_q1 t_o0) t_o0 cf10 mk_X10_isCentury vk_X10_isCentury ml_X10_279 ⟨by decide, by decide⟩ rfl hl.1 rfl (Nat.le_of_ble_eq_true rfl) dX10_century_3 ⟨(Nat.le_of_ble_eq_true rfl), (Nat.le_of_ble_eq_true rfl)⟩ (fun H locs hw hG => ?_)
  have t_o0 := hG.t t_o0
  have hg := hg.tr hG
  refine lv_if_eq (tgt := 38) hx hb dX10_century_6 (by decide) (fun c2 => ?_) (fun c2 => ?_)
  · replace h := h.1 c2
    refine lv_iconst (v := 0) hx hb dX10_century_38 (by decide) ?_
    refine x_need (K := False) E F hw hst hnt hlk hA hg ⟨fun _ => h, fun e => e rfl⟩ ml_X10_122 ⟨by decide, by decide⟩ hl.1 (Nat.le_of_ble_eq_true rfl) dX10_century_39 ⟨(Nat.le_of_ble_eq_true rfl), (Nat.le_of_ble_eq_true rfl)⟩ ⟨(Nat.le_of_ble_eq_true rfl), (Nat.le_of_ble_eq_true rfl)⟩ (fun z => z.elim)
  · replace h := h.2 c2
    refine lv_aload_n hx hb dX10_century_9 rfl (lv_at hl 0 rfl) ?_
    obtain ⟨b3, r_b3, h⟩ := h
    obtain ⟨r_b3, t_b3⟩ := rk_some r_b3
    refine g_R E F hw t_o0 cf10 fk_X10_34 dX10_century_10 rfl r_b3 ?_
    obtain ⟨b4, r_b4, h⟩ := h
    obtain ⟨r_b4, t_b4⟩ := rk_some r_b4
    refine g_R E F hw t_b3 cf8 fk_X10_81 dX10_century_13 rfl r_b4 ?_
    refine lv_iload_n hx hb dX10_century_16 rfl (lv_at hl 3 rfl) ?_
    obtain ⟨q5, h_q5, h⟩ := h
    refine z_VI E F hw [.int x3] (k_X9_hasSpring l D cy kc b4 x3 q1.2 h_q5 t_b4) t_b4 cf9 mk_X9_hasSpring vk_X9_hasSpring ml_X10_133 ⟨by decide, by decide⟩ rfl hl.1 rfl (Nat.le_of_ble_eq_true rfl) dX10_century_17 ⟨(Nat.le_of_ble_eq_true rfl), (Nat.le_of_ble_eq_true rfl)⟩ (fun H locs hw hG => ?_)
    have t_o0 := hG.t t_o0
    have hg := hg.tr hG
    refine lv_if_eq (tgt := 38) hx hb dX10_century_20 (by decide) (fun c6 => ?_) (fun c6 => ?_)
    · replace h := h.1 c6
      refine lv_iconst (v := 0) hx hb dX10_century_38 (by decide) ?_
      refine x_need (K := False) E F hw hst hnt hlk hA hg ⟨fun _ => h, fun e => e rfl⟩ ml_X10_122 ⟨by decide, by decide⟩ hl.1 (Nat.le_of_ble_eq_true rfl) dX10_century_39 ⟨(Nat.le_of_ble_eq_true rfl), (Nat.le_of_ble_eq_true rfl)⟩ ⟨(Nat.le_of_ble_eq_true rfl), (Nat.le_of_ble_eq_true rfl)⟩ (fun z => z.elim)
    · replace h := h.2 c6
      refine lv_iload hx hb dX10_century_23 (lv_at hl 4 rfl) ?_
      refine lv_if_lt (tgt := 38) hx hb dX10_century_25 (by decide) (fun c7 => ?_) (fun c7 => ?_)
      · replace h := h.1 c7
        refine lv_iconst (v := 0) hx hb dX10_century_38 (by decide) ?_
        refine x_need (K := False) E F hw hst hnt hlk hA hg ⟨fun _ => h, fun e => e rfl⟩ ml_X10_122 ⟨by decide, by decide⟩ hl.1 (Nat.le_of_ble_eq_true rfl) dX10_century_39 ⟨(Nat.le_of_ble_eq_true rfl), (Nat.le_of_ble_eq_true rfl)⟩ ⟨(Nat.le_of_ble_eq_true rfl), (Nat.le_of_ble_eq_true rfl)⟩ (fun z => z.elim)
      · replace h := h.2 c7
        refine lv_iload hx hb dX10_century_28 (lv_at hl 4 rfl) ?_
        refine lv_iconst (v := 3) hx hb dX10_century_30 (by decide) ?_
        refine lv_icmp_gt (tgt := 38) hx hb dX10_century_31 (by decide) (fun c8 => ?_) (fun c8 => ?_)
        · replace h := h.1 c8
          refine lv_iconst (v := 0) hx hb dX10_century_38 (by decide) ?_
          refine x_need (K := False) E F hw hst hnt hlk hA hg ⟨fun _ => h, fun e => e rfl⟩ ml_X10_122 ⟨by decide, by decide⟩ hl.1 (Nat.le_of_ble_eq_true rfl) dX10_century_39 ⟨(Nat.le_of_ble_eq_true rfl), (Nat.le_of_ble_eq_true rfl)⟩ ⟨(Nat.le_of_ble_eq_true rfl), (Nat.le_of_ble_eq_true rfl)⟩ (fun z => z.elim)
        · replace h := h.2 c8
          refine lv_iconst (v := 1) hx hb dX10_century_34 (by decide) ?_
          refine lv_goto (tgt := 39) hx hb dX10_century_35 (by decide) ?_
          refine x_need (K := True) E F hw hst hnt hlk hA hg ⟨fun e => absurd e (by decide), fun _ => trivial⟩ ml_X10_122 ⟨by decide, by decide⟩ hl.1 (Nat.le_of_ble_eq_true rfl) dX10_century_39 ⟨(Nat.le_of_ble_eq_true rfl), (Nat.le_of_ble_eq_true rfl)⟩ ⟨(Nat.le_of_ble_eq_true rfl), (Nat.le_of_ble_eq_true rfl)⟩ (fun _ H locs hw => ?_)
          obtain ⟨qq, h, hpo⟩ := h
          exact T42 o0 x1 x2 x3 x4 q5.2 qq _ _ _ hpo (by rw [h]; rfl) hw hg t_o0 (lv_sub hl [0, 1, 2, 3, 4] rfl)
def f_X10_fares_t61 (u0 : Nat) (z3 : Int32) (S3 : PS) : Option (Int32 × PS) :=
  (rk S3 (sR S3 u0 7) 0).bind fun b13 => (f_X0_faresOf b13 z3 S3).bind fun q14 => some (q14.1, q14.2)
def g_X10_fares (o0 : Nat) (x1 : Int32) (x2 : Int32) (x3 : Int32) (S : PS) (post : Option Int32 → PS → Prop) : Prop :=
  ∃ q1, (f_X10_isCentury o0 x1 x2 S) = some q1 ∧ (((q1.1 = (0 : Int32) → (post none q1.2)) ∧ (¬ q1.1 = (0 : Int32) → (∃ b3, (rk q1.2 (sR q1.2 o0 3) 8) = some b3 ∧ (∃ b4, (rk q1.2 (sR q1.2 b3 0) 9) = some b4 ∧ (∃ q5, (f_X9_hasSpring b4 x3 q1.2) = some q5 ∧ (((q5.1 = (0 : Int32) → (post none q5.2)) ∧ (¬ q5.1 = (0 : Int32) → (∃ b7, (rk q5.2 (sR q5.2 o0 7) 0) = some b7 ∧ (∃ q8, (f_X0_run b7 x1 x2 q5.2) = some q8 ∧ (∃ b9, (rk q8.2 (sR q8.2 o0 7) 0) = some b9 ∧ (∃ b10, (rk q8.2 (sR q8.2 b9 2) 13) = some b10 ∧ ((ib x3 (sN q8.2 b10) = true) ∧ ((((sI q8.2 b10 (Int32.toNatClampNeg x3)) = (-1 : Int32) → (post none q8.2)) ∧ (¬ (sI q8.2 b10 (Int32.toNatClampNeg x3)) = (-1 : Int32) → (∃ qq, f_X10_fares_t61 o0 x3 q8.2 = some qq ∧ post (some qq.1) qq.2))))))))))))))))))
set_option maxHeartbeats 4000000 in
set_option maxRecDepth 100000 in
theorem k_X10_fares (l : Launch) (hst : l.stackTraces = false) (D : va_G) (cy : Nat → ClassId) (kc : Nat → Nat) (o0 : Nat) (x1 : Int32) (x2 : Int32) (x3 : Int32) (S : PS) {post : Option Int32 → PS → Prop} (h : g_X10_fares o0 x1 x2 x3 S post) (t_o0 : tD S o0 10) : XI l D cy kc yX10_fares cX10_fares 4 .int (rmK 9 296 2 12) [.ref o0, .int x1, .int x2, .int x3] S post := by
  refine X_body (Qc := fun sz => GI D cy S (fun r => post (some r)) sz) (XC := fun sz => XX D cy S (post none) sz) (by decide) (Nat.le_of_ble_eq_true rfl) ?_
  intro p e s m below meth c A ls args E hr hlk hnm hA F hw hl hnt
  have hx := E.1
  have hb := E.2.1
  have hl : lv_has ls 4 [(0, .ref o0), (1, .int x1), (2, .int x2), (3, .int x3)] := hl
  have hg : Gr S S := Gr.rf
  have T61 : ∀ (u0 : Nat) (z3 : Int32) (S3 : PS) (qq : Int32 × PS) (H : Heap) (locs : List Loc) (ls : Array Slot), post (some qq.1) qq.2 → (f_X10_fares_t61 u0 z3 S3).bind some = some qq → Wd D cy A s H locs S3 → Gr S S3 → tD S3 u0 10 → lv_has ls 4 [(0, .ref u0), (3, .int z3)] → W p l e (rmK 9 296 2 12) s m args below meth c H locs 2 12 (vx_MQ below (GI D cy S (fun r => post (some r)) s.heap.size) (XX D cy S (post none) s.heap.size) args s 2 12 A) (F0 m 61 ls []) := by
    intro u0 z3 S3 qq H locs ls hpo h hw hg t_u0 hl
    rw [f_X10_fares_t61] at h
    refine lv_aload_n hx hb dX10_fares_61 rfl (lv_at hl 0 rfl) ?_
    obtain ⟨b13, r_b13, h⟩ := bb h
    obtain ⟨r_b13, t_b13⟩ := rk_some r_b13
    refine g_R E F hw t_u0 cf10 fk_X10_63 dX10_fares_62 rfl r_b13 ?_
    refine lv_iload_n hx hb dX10_fares_65 rfl (lv_at hl 1 rfl) ?_
    obtain ⟨q14, h_q14, h⟩ := bb h
    refine z_VI E F hw [.int z3] (k_X0_faresOf l D cy kc b13 z3 S3 h_q14 t_b13) t_b13 cf0 mk_X0_faresOf vk_X0_faresOf ml_X10_297 ⟨by decide, by decide⟩ rfl hl.1 rfl (Nat.le_of_ble_eq_true rfl) dX10_fares_66 ⟨(Nat.le_of_ble_eq_true rfl), (Nat.le_of_ble_eq_true rfl)⟩ (fun H locs hw hG => ?_)
    have t_u0 := hG.t t_u0
    have hg := hg.tr hG
    obtain rfl := Option.some.inj h
    exact vx_ret (h_I E hr hlk F hA hw hg hpo (Nat.le_of_ble_eq_true rfl) (Nat.le_of_ble_eq_true rfl) dX10_fares_69)
  rw [g_X10_fares] at h
  refine lv_aload_n hx hb dX10_fares_0 rfl (lv_at hl 0 rfl) ?_
  refine lv_iload_n hx hb dX10_fares_1 rfl (lv_at hl 1 rfl) ?_
  refine lv_iload_n hx hb dX10_fares_2 rfl (lv_at hl 2 rfl) ?_
  obtain ⟨q1, h_q1, h⟩ := h
  refine z_VI E F hw [.int x1, .int x2] (k_X10_isCentury l D cy kc o0 x1 x2 S h_q1 t_o0) t_o0 cf10 mk_X10_isCentury vk_X10_isCentury ml_X10_279 ⟨by decide, by decide⟩ rfl hl.1 rfl (Nat.le_of_ble_eq_true rfl) dX10_fares_3 ⟨(Nat.le_of_ble_eq_true rfl), (Nat.le_of_ble_eq_true rfl)⟩ (fun H locs hw hG => ?_)
  have t_o0 := hG.t t_o0
  have hg := hg.tr hG
  refine lv_if_eq (tgt := 27) hx hb dX10_fares_6 (by decide) (fun c2 => ?_) (fun c2 => ?_)
  · replace h := h.1 c2
    refine lv_iconst (v := 0) hx hb dX10_fares_27 (by decide) ?_
    refine x_need (K := False) E F hw hst hnt hlk hA hg ⟨fun _ => h, fun e => e rfl⟩ ml_X10_122 ⟨by decide, by decide⟩ hl.1 (Nat.le_of_ble_eq_true rfl) dX10_fares_28 ⟨(Nat.le_of_ble_eq_true rfl), (Nat.le_of_ble_eq_true rfl)⟩ ⟨(Nat.le_of_ble_eq_true rfl), (Nat.le_of_ble_eq_true rfl)⟩ (fun z => z.elim)
  · replace h := h.2 c2
    refine lv_aload_n hx hb dX10_fares_9 rfl (lv_at hl 0 rfl) ?_
    obtain ⟨b3, r_b3, h⟩ := h
    obtain ⟨r_b3, t_b3⟩ := rk_some r_b3
    refine g_R E F hw t_o0 cf10 fk_X10_34 dX10_fares_10 rfl r_b3 ?_
    obtain ⟨b4, r_b4, h⟩ := h
    obtain ⟨r_b4, t_b4⟩ := rk_some r_b4
    refine g_R E F hw t_b3 cf8 fk_X10_81 dX10_fares_13 rfl r_b4 ?_
    refine lv_iload_n hx hb dX10_fares_16 rfl (lv_at hl 3 rfl) ?_
    obtain ⟨q5, h_q5, h⟩ := h
    refine z_VI E F hw [.int x3] (k_X9_hasSpring l D cy kc b4 x3 q1.2 h_q5 t_b4) t_b4 cf9 mk_X9_hasSpring vk_X9_hasSpring ml_X10_133 ⟨by decide, by decide⟩ rfl hl.1 rfl (Nat.le_of_ble_eq_true rfl) dX10_fares_17 ⟨(Nat.le_of_ble_eq_true rfl), (Nat.le_of_ble_eq_true rfl)⟩ (fun H locs hw hG => ?_)
    have t_o0 := hG.t t_o0
    have hg := hg.tr hG
    refine lv_if_eq (tgt := 27) hx hb dX10_fares_20 (by decide) (fun c6 => ?_) (fun c6 => ?_)
    · replace h := h.1 c6
      refine lv_iconst (v := 0) hx hb dX10_fares_27 (by decide) ?_
      refine x_need (K := False) E F hw hst hnt hlk hA hg ⟨fun _ => h, fun e => e rfl⟩ ml_X10_122 ⟨by decide, by decide⟩ hl.1 (Nat.le_of_ble_eq_true rfl) dX10_fares_28 ⟨(Nat.le_of_ble_eq_true rfl), (Nat.le_of_ble_eq_true rfl)⟩ ⟨(Nat.le_of_ble_eq_true rfl), (Nat.le_of_ble_eq_true rfl)⟩ (fun z => z.elim)
    · replace h := h.2 c6
      refine lv_iconst (v := 1) hx hb dX10_fares_23 (by decide) ?_
      refine lv_goto (tgt := 28) hx hb dX10_fares_24 (by decide) ?_
      refine x_need (K := True) E F hw hst hnt hlk hA hg ⟨fun e => absurd e (by decide), fun _ => trivial⟩ ml_X10_122 ⟨by decide, by decide⟩ hl.1 (Nat.le_of_ble_eq_true rfl) dX10_fares_28 ⟨(Nat.le_of_ble_eq_true rfl), (Nat.le_of_ble_eq_true rfl)⟩ ⟨(Nat.le_of_ble_eq_true rfl), (Nat.le_of_ble_eq_true rfl)⟩ (fun _ H locs hw => ?_)
      refine lv_aload_n hx hb dX10_fares_31 rfl (lv_at hl 0 rfl) ?_
      obtain ⟨b7, r_b7, h⟩ := h
      obtain ⟨r_b7, t_b7⟩ := rk_some r_b7
      refine g_R E F hw t_o0 cf10 fk_X10_63 dX10_fares_32 rfl r_b7 ?_
      refine lv_iload_n hx hb dX10_fares_35 rfl (lv_at hl 1 rfl) ?_
      refine lv_iload_n hx hb dX10_fares_36 rfl (lv_at hl 2 rfl) ?_
      obtain ⟨q8, h_q8, h⟩ := h
      refine z_VV E F hw [.int x1, .int x2] (k_X0_run l D cy kc b7 x1 x2 q5.2 h_q8 t_b7) t_b7 cf0 mk_X0_run vk_X0_run ml_X10_282 ⟨by decide, by decide⟩ rfl hl.1 rfl (Nat.le_of_ble_eq_true rfl) dX10_fares_37 ⟨(Nat.le_of_ble_eq_true rfl), (Nat.le_of_ble_eq_true rfl)⟩ (fun H locs hw hG => ?_)
      have t_o0 := hG.t t_o0
      have hg := hg.tr hG
      refine lv_aload_n hx hb dX10_fares_40 rfl (lv_at hl 0 rfl) ?_
      obtain ⟨b9, r_b9, h⟩ := h
      obtain ⟨r_b9, t_b9⟩ := rk_some r_b9
      refine g_R E F hw t_o0 cf10 fk_X10_63 dX10_fares_41 rfl r_b9 ?_
      obtain ⟨b10, r_b10, h⟩ := h
      obtain ⟨r_b10, t_b10⟩ := rk_some r_b10
      refine g_R E F hw t_b9 cf0 fk_X10_288 dX10_fares_44 rfl r_b10 ?_
      refine lv_iload_n hx hb dX10_fares_47 rfl (lv_at hl 3 rfl) ?_
      obtain ⟨c11, h⟩ := h
      refine a_i E F hw t_b10 c11 dX10_fares_48 ?_
      refine lv_iconst (v := (-1)) hx hb dX10_fares_49 (by decide) ?_
      refine lv_icmp_eq (tgt := 57) hx hb dX10_fares_50 (by decide) (fun c12 => ?_) (fun c12 => ?_)
      · replace h := h.1 c12
        refine lv_iconst (v := 0) hx hb dX10_fares_57 (by decide) ?_
        refine x_need (K := False) E F hw hst hnt hlk hA hg ⟨fun _ => h, fun e => e rfl⟩ ml_X10_122 ⟨by decide, by decide⟩ hl.1 (Nat.le_of_ble_eq_true rfl) dX10_fares_58 ⟨(Nat.le_of_ble_eq_true rfl), (Nat.le_of_ble_eq_true rfl)⟩ ⟨(Nat.le_of_ble_eq_true rfl), (Nat.le_of_ble_eq_true rfl)⟩ (fun z => z.elim)
      · replace h := h.2 c12
        refine lv_iconst (v := 1) hx hb dX10_fares_53 (by decide) ?_
        refine lv_goto (tgt := 58) hx hb dX10_fares_54 (by decide) ?_
        refine x_need (K := True) E F hw hst hnt hlk hA hg ⟨fun e => absurd e (by decide), fun _ => trivial⟩ ml_X10_122 ⟨by decide, by decide⟩ hl.1 (Nat.le_of_ble_eq_true rfl) dX10_fares_58 ⟨(Nat.le_of_ble_eq_true rfl), (Nat.le_of_ble_eq_true rfl)⟩ ⟨(Nat.le_of_ble_eq_true rfl), (Nat.le_of_ble_eq_true rfl)⟩ (fun _ H locs hw => ?_)
        obtain ⟨qq, h, hpo⟩ := h
        exact T61 o0 x3 q8.2 qq _ _ _ hpo (by rw [h]; rfl) hw hg t_o0 (lv_sub hl [0, 3] rfl)
def f_X10_told_t26 (u0 : Nat) (z1 : Int32) (z2 : Int32) (z3 : Int32) (S3 : PS) : Option (Int32 × PS) :=
  (rk S3 (sR S3 u0 7) 0).bind fun b5 => (f_X0_run b5 z1 z2 S3).bind fun q6 => (if z3 = 0 then (rk q6.2 (sR q6.2 u0 7) 0).bind fun b7 => (f_X0_lasts b7 q6.2).bind fun q8 => some (q8.1, q8.2) else if z3 = 1 then (rk q6.2 (sR q6.2 u0 7) 0).bind fun b10 => (f_X0_timesBack b10 q6.2).bind fun q11 => some (q11.1, q11.2) else if z3 = 2 then (rk q6.2 (sR q6.2 u0 7) 0).bind fun b13 => (f_X0_faresOfAll b13 q6.2).bind fun q14 => some (q14.1, q14.2) else if z3 = 3 then (rk q6.2 (sR q6.2 u0 7) 0).bind fun b16 => (f_X0_timesAsked b16 (1 : Int32) q6.2).bind fun q17 => some (q17.1, q17.2) else if z3 = 4 then (rk q6.2 (sR q6.2 u0 7) 0).bind fun b19 => (f_X0_timesAsked b19 (0 : Int32) q6.2).bind fun q20 => some (q20.1, q20.2) else (rk q6.2 (sR q6.2 u0 7) 0).bind fun b22 => some ((sI q6.2 b22 7), q6.2))
def g_X10_told (o0 : Nat) (x1 : Int32) (x2 : Int32) (x3 : Int32) (S : PS) (post : Option Int32 → PS → Prop) : Prop :=
  ∃ q1, (f_X10_isCentury o0 x1 x2 S) = some q1 ∧ (((q1.1 = (0 : Int32) → (post none q1.2)) ∧ (¬ q1.1 = (0 : Int32) → (((x3 < (0 : Int32) → (post none q1.2)) ∧ (¬ x3 < (0 : Int32) → ((((5 : Int32) < x3 → (post none q1.2)) ∧ (¬ (5 : Int32) < x3 → (∃ qq, f_X10_told_t26 o0 x1 x2 x3 q1.2 = some qq ∧ post (some qq.1) qq.2))))))))))
set_option maxHeartbeats 4000000 in
set_option maxRecDepth 100000 in
theorem k_X10_told (l : Launch) (hst : l.stackTraces = false) (D : va_G) (cy : Nat → ClassId) (kc : Nat → Nat) (o0 : Nat) (x1 : Int32) (x2 : Int32) (x3 : Int32) (S : PS) {post : Option Int32 → PS → Prop} (h : g_X10_told o0 x1 x2 x3 S post) (t_o0 : tD S o0 10) : XI l D cy kc yX10_told cX10_told 4 .int (rmK 9 296 1 6) [.ref o0, .int x1, .int x2, .int x3] S post := by
  refine X_body (Qc := fun sz => GI D cy S (fun r => post (some r)) sz) (XC := fun sz => XX D cy S (post none) sz) (by decide) (Nat.le_of_ble_eq_true rfl) ?_
  intro p e s m below meth c A ls args E hr hlk hnm hA F hw hl hnt
  have hx := E.1
  have hb := E.2.1
  have hl : lv_has ls 4 [(0, .ref o0), (1, .int x1), (2, .int x2), (3, .int x3)] := hl
  have hg : Gr S S := Gr.rf
  have T26 : ∀ (u0 : Nat) (z1 : Int32) (z2 : Int32) (z3 : Int32) (S3 : PS) (qq : Int32 × PS) (H : Heap) (locs : List Loc) (ls : Array Slot), post (some qq.1) qq.2 → (f_X10_told_t26 u0 z1 z2 z3 S3).bind some = some qq → Wd D cy A s H locs S3 → Gr S S3 → tD S3 u0 10 → lv_has ls 4 [(0, .ref u0), (1, .int z1), (2, .int z2), (3, .int z3)] → W p l e (rmK 9 296 1 6) s m args below meth c H locs 1 6 (vx_MQ below (GI D cy S (fun r => post (some r)) s.heap.size) (XX D cy S (post none) s.heap.size) args s 1 6 A) (F0 m 26 ls []) := by
    intro u0 z1 z2 z3 S3 qq H locs ls hpo h hw hg t_u0 hl
    rw [f_X10_told_t26] at h
    refine lv_aload_n hx hb dX10_told_26 rfl (lv_at hl 0 rfl) ?_
    obtain ⟨b5, r_b5, h⟩ := bb h
    obtain ⟨r_b5, t_b5⟩ := rk_some r_b5
    refine g_R E F hw t_u0 cf10 fk_X10_63 dX10_told_27 rfl r_b5 ?_
    refine lv_iload_n hx hb dX10_told_30 rfl (lv_at hl 1 rfl) ?_
    refine lv_iload_n hx hb dX10_told_31 rfl (lv_at hl 2 rfl) ?_
    obtain ⟨q6, h_q6, h⟩ := bb h
    refine z_VV E F hw [.int z1, .int z2] (k_X0_run l D cy kc b5 z1 z2 S3 h_q6 t_b5) t_b5 cf0 mk_X0_run vk_X0_run ml_X10_282 ⟨by decide, by decide⟩ rfl hl.1 rfl (Nat.le_of_ble_eq_true rfl) dX10_told_32 ⟨(Nat.le_of_ble_eq_true rfl), (Nat.le_of_ble_eq_true rfl)⟩ (fun H locs hw hG => ?_)
    have t_u0 := hG.t t_u0
    have hg := hg.tr hG
    refine lv_iload_n hx hb dX10_told_35 rfl (lv_at hl 3 rfl) ?_
    by_cases c9 : z3 = 0
    · rw [if_pos c9] at h
      refine lv_tableIn (tgt := 72) hx hb dX10_told_36 (by rw [c9]; decide) (by rw [c9]; decide) (by rw [c9]; rfl) (by decide) ?_
      refine lv_aload_n hx hb dX10_told_72 rfl (lv_at hl 0 rfl) ?_
      obtain ⟨b7, r_b7, h⟩ := bb h
      obtain ⟨r_b7, t_b7⟩ := rk_some r_b7
      refine g_R E F hw t_u0 cf10 fk_X10_63 dX10_told_73 rfl r_b7 ?_
      obtain ⟨q8, h_q8, h⟩ := bb h
      refine z_VI E F hw [] (k_X0_lasts l D cy kc b7 q6.2 h_q8 t_b7) t_b7 cf0 mk_X0_lasts vk_X0_lasts ml_X10_301 ⟨by decide, by decide⟩ rfl hl.1 rfl (Nat.le_of_ble_eq_true rfl) dX10_told_76 ⟨(Nat.le_of_ble_eq_true rfl), (Nat.le_of_ble_eq_true rfl)⟩ (fun H locs hw hG => ?_)
      have t_u0 := hG.t t_u0
      have hg := hg.tr hG
      obtain rfl := Option.some.inj h
      exact vx_ret (h_I E hr hlk F hA hw hg hpo (Nat.le_of_ble_eq_true rfl) (Nat.le_of_ble_eq_true rfl) dX10_told_79)
    rw [if_neg c9] at h
    by_cases c12 : z3 = 1
    · rw [if_pos c12] at h
      refine lv_tableIn (tgt := 80) hx hb dX10_told_36 (by rw [c12]; decide) (by rw [c12]; decide) (by rw [c12]; rfl) (by decide) ?_
      refine lv_aload_n hx hb dX10_told_80 rfl (lv_at hl 0 rfl) ?_
      obtain ⟨b10, r_b10, h⟩ := bb h
      obtain ⟨r_b10, t_b10⟩ := rk_some r_b10
      refine g_R E F hw t_u0 cf10 fk_X10_63 dX10_told_81 rfl r_b10 ?_
      obtain ⟨q11, h_q11, h⟩ := bb h
      refine z_VI E F hw [] (k_X0_timesBack l D cy kc b10 q6.2 h_q11 t_b10) t_b10 cf0 mk_X0_timesBack vk_X0_timesBack ml_X10_305 ⟨by decide, by decide⟩ rfl hl.1 rfl (Nat.le_of_ble_eq_true rfl) dX10_told_84 ⟨(Nat.le_of_ble_eq_true rfl), (Nat.le_of_ble_eq_true rfl)⟩ (fun H locs hw hG => ?_)
      have t_u0 := hG.t t_u0
      have hg := hg.tr hG
      obtain rfl := Option.some.inj h
      exact vx_ret (h_I E hr hlk F hA hw hg hpo (Nat.le_of_ble_eq_true rfl) (Nat.le_of_ble_eq_true rfl) dX10_told_87)
    rw [if_neg c12] at h
    by_cases c15 : z3 = 2
    · rw [if_pos c15] at h
      refine lv_tableIn (tgt := 88) hx hb dX10_told_36 (by rw [c15]; decide) (by rw [c15]; decide) (by rw [c15]; rfl) (by decide) ?_
      refine lv_aload_n hx hb dX10_told_88 rfl (lv_at hl 0 rfl) ?_
      obtain ⟨b13, r_b13, h⟩ := bb h
      obtain ⟨r_b13, t_b13⟩ := rk_some r_b13
      refine g_R E F hw t_u0 cf10 fk_X10_63 dX10_told_89 rfl r_b13 ?_
      obtain ⟨q14, h_q14, h⟩ := bb h
      refine z_VI E F hw [] (k_X0_faresOfAll l D cy kc b13 q6.2 h_q14 t_b13) t_b13 cf0 mk_X0_faresOfAll vk_X0_faresOfAll ml_X10_308 ⟨by decide, by decide⟩ rfl hl.1 rfl (Nat.le_of_ble_eq_true rfl) dX10_told_92 ⟨(Nat.le_of_ble_eq_true rfl), (Nat.le_of_ble_eq_true rfl)⟩ (fun H locs hw hG => ?_)
      have t_u0 := hG.t t_u0
      have hg := hg.tr hG
      obtain rfl := Option.some.inj h
      exact vx_ret (h_I E hr hlk F hA hw hg hpo (Nat.le_of_ble_eq_true rfl) (Nat.le_of_ble_eq_true rfl) dX10_told_95)
    rw [if_neg c15] at h
    by_cases c18 : z3 = 3
    · rw [if_pos c18] at h
      refine lv_tableIn (tgt := 96) hx hb dX10_told_36 (by rw [c18]; decide) (by rw [c18]; decide) (by rw [c18]; rfl) (by decide) ?_
      refine lv_aload_n hx hb dX10_told_96 rfl (lv_at hl 0 rfl) ?_
      obtain ⟨b16, r_b16, h⟩ := bb h
      obtain ⟨r_b16, t_b16⟩ := rk_some r_b16
      refine g_R E F hw t_u0 cf10 fk_X10_63 dX10_told_97 rfl r_b16 ?_
      refine lv_iconst (v := 1) hx hb dX10_told_100 (by decide) ?_
      obtain ⟨q17, h_q17, h⟩ := bb h
      refine z_VI E F hw [.int (1 : Int32)] (k_X0_timesAsked l D cy kc b16 (1 : Int32) q6.2 h_q17 t_b16) t_b16 cf0 mk_X0_timesAsked vk_X0_timesAsked ml_X10_311 ⟨by decide, by decide⟩ rfl hl.1 rfl (Nat.le_of_ble_eq_true rfl) dX10_told_101 ⟨(Nat.le_of_ble_eq_true rfl), (Nat.le_of_ble_eq_true rfl)⟩ (fun H locs hw hG => ?_)
      have t_u0 := hG.t t_u0
      have hg := hg.tr hG
      obtain rfl := Option.some.inj h
      exact vx_ret (h_I E hr hlk F hA hw hg hpo (Nat.le_of_ble_eq_true rfl) (Nat.le_of_ble_eq_true rfl) dX10_told_104)
    rw [if_neg c18] at h
    by_cases c21 : z3 = 4
    · rw [if_pos c21] at h
      refine lv_tableIn (tgt := 105) hx hb dX10_told_36 (by rw [c21]; decide) (by rw [c21]; decide) (by rw [c21]; rfl) (by decide) ?_
      refine lv_aload_n hx hb dX10_told_105 rfl (lv_at hl 0 rfl) ?_
      obtain ⟨b19, r_b19, h⟩ := bb h
      obtain ⟨r_b19, t_b19⟩ := rk_some r_b19
      refine g_R E F hw t_u0 cf10 fk_X10_63 dX10_told_106 rfl r_b19 ?_
      refine lv_iconst (v := 0) hx hb dX10_told_109 (by decide) ?_
      obtain ⟨q20, h_q20, h⟩ := bb h
      refine z_VI E F hw [.int (0 : Int32)] (k_X0_timesAsked l D cy kc b19 (0 : Int32) q6.2 h_q20 t_b19) t_b19 cf0 mk_X0_timesAsked vk_X0_timesAsked ml_X10_311 ⟨by decide, by decide⟩ rfl hl.1 rfl (Nat.le_of_ble_eq_true rfl) dX10_told_110 ⟨(Nat.le_of_ble_eq_true rfl), (Nat.le_of_ble_eq_true rfl)⟩ (fun H locs hw hG => ?_)
      have t_u0 := hG.t t_u0
      have hg := hg.tr hG
      obtain rfl := Option.some.inj h
      exact vx_ret (h_I E hr hlk F hA hw hg hpo (Nat.le_of_ble_eq_true rfl) (Nat.le_of_ble_eq_true rfl) dX10_told_113)
    rw [if_neg c21] at h
    refine lv_tableOut (tgt := 114) hx hb dX10_told_36 (by have n0 := ne_toInt (n := 0) (z := 0) c9 (by decide); have n1 := ne_toInt (n := 1) (z := 1) c12 (by decide); have n2 := ne_toInt (n := 2) (z := 2) c15 (by decide); have n3 := ne_toInt (n := 3) (z := 3) c18 (by decide); have n4 := ne_toInt (n := 4) (z := 4) c21 (by decide); omega) (by decide) ?_
    refine lv_aload_n hx hb dX10_told_114 rfl (lv_at hl 0 rfl) ?_
    obtain ⟨b22, r_b22, h⟩ := bb h
    obtain ⟨r_b22, t_b22⟩ := rk_some r_b22
    refine g_R E F hw t_u0 cf10 fk_X10_63 dX10_told_115 rfl r_b22 ?_
    refine g_f E F hw t_b22 cf0 fk_X10_315 dX10_told_118 rfl ?_
    obtain rfl := Option.some.inj h
    exact vx_ret (h_I E hr hlk F hA hw hg hpo (Nat.le_of_ble_eq_true rfl) (Nat.le_of_ble_eq_true rfl) dX10_told_121)
  rw [g_X10_told] at h
  refine lv_aload_n hx hb dX10_told_0 rfl (lv_at hl 0 rfl) ?_
  refine lv_iload_n hx hb dX10_told_1 rfl (lv_at hl 1 rfl) ?_
  refine lv_iload_n hx hb dX10_told_2 rfl (lv_at hl 2 rfl) ?_
  obtain ⟨q1, h_q1, h⟩ := h
  refine z_VI E F hw [.int x1, .int x2] (k_X10_isCentury l D cy kc o0 x1 x2 S h_q1 t_o0) t_o0 cf10 mk_X10_isCentury vk_X10_isCentury ml_X10_279 ⟨by decide, by decide⟩ rfl hl.1 rfl (Nat.le_of_ble_eq_true rfl) dX10_told_3 ⟨(Nat.le_of_ble_eq_true rfl), (Nat.le_of_ble_eq_true rfl)⟩ (fun H locs hw hG => ?_)
  have t_o0 := hG.t t_o0
  have hg := hg.tr hG
  refine lv_if_eq (tgt := 22) hx hb dX10_told_6 (by decide) (fun c2 => ?_) (fun c2 => ?_)
  · replace h := h.1 c2
    refine lv_iconst (v := 0) hx hb dX10_told_22 (by decide) ?_
    refine x_need (K := False) E F hw hst hnt hlk hA hg ⟨fun _ => h, fun e => e rfl⟩ ml_X10_122 ⟨by decide, by decide⟩ hl.1 (Nat.le_of_ble_eq_true rfl) dX10_told_23 ⟨(Nat.le_of_ble_eq_true rfl), (Nat.le_of_ble_eq_true rfl)⟩ ⟨(Nat.le_of_ble_eq_true rfl), (Nat.le_of_ble_eq_true rfl)⟩ (fun z => z.elim)
  · replace h := h.2 c2
    refine lv_iload_n hx hb dX10_told_9 rfl (lv_at hl 3 rfl) ?_
    refine lv_if_lt (tgt := 22) hx hb dX10_told_10 (by decide) (fun c3 => ?_) (fun c3 => ?_)
    · replace h := h.1 c3
      refine lv_iconst (v := 0) hx hb dX10_told_22 (by decide) ?_
      refine x_need (K := False) E F hw hst hnt hlk hA hg ⟨fun _ => h, fun e => e rfl⟩ ml_X10_122 ⟨by decide, by decide⟩ hl.1 (Nat.le_of_ble_eq_true rfl) dX10_told_23 ⟨(Nat.le_of_ble_eq_true rfl), (Nat.le_of_ble_eq_true rfl)⟩ ⟨(Nat.le_of_ble_eq_true rfl), (Nat.le_of_ble_eq_true rfl)⟩ (fun z => z.elim)
    · replace h := h.2 c3
      refine lv_iload_n hx hb dX10_told_13 rfl (lv_at hl 3 rfl) ?_
      refine lv_iconst (v := 5) hx hb dX10_told_14 (by decide) ?_
      refine lv_icmp_gt (tgt := 22) hx hb dX10_told_15 (by decide) (fun c4 => ?_) (fun c4 => ?_)
      · replace h := h.1 c4
        refine lv_iconst (v := 0) hx hb dX10_told_22 (by decide) ?_
        refine x_need (K := False) E F hw hst hnt hlk hA hg ⟨fun _ => h, fun e => e rfl⟩ ml_X10_122 ⟨by decide, by decide⟩ hl.1 (Nat.le_of_ble_eq_true rfl) dX10_told_23 ⟨(Nat.le_of_ble_eq_true rfl), (Nat.le_of_ble_eq_true rfl)⟩ ⟨(Nat.le_of_ble_eq_true rfl), (Nat.le_of_ble_eq_true rfl)⟩ (fun z => z.elim)
      · replace h := h.2 c4
        refine lv_iconst (v := 1) hx hb dX10_told_18 (by decide) ?_
        refine lv_goto (tgt := 23) hx hb dX10_told_19 (by decide) ?_
        refine x_need (K := True) E F hw hst hnt hlk hA hg ⟨fun e => absurd e (by decide), fun _ => trivial⟩ ml_X10_122 ⟨by decide, by decide⟩ hl.1 (Nat.le_of_ble_eq_true rfl) dX10_told_23 ⟨(Nat.le_of_ble_eq_true rfl), (Nat.le_of_ble_eq_true rfl)⟩ ⟨(Nat.le_of_ble_eq_true rfl), (Nat.le_of_ble_eq_true rfl)⟩ (fun _ H locs hw => ?_)
        obtain ⟨qq, h, hpo⟩ := h
        exact T26 o0 x1 x2 x3 q1.2 qq _ _ _ hpo (by rw [h]; rfl) hw hg t_o0 (lv_sub hl [0, 1, 2, 3] rfl)
def f_X10_judged_t30 (u0 : Nat) (z1 : Int32) (S3 : PS) : Option (Int64 × PS) :=
  (rk S3 (sR S3 u0 5) 4).bind fun b6 => (f_X4_solveFrom b6 (0 : Int32) S3).bind fun q7 => (rk q7.2 (sR q7.2 u0 8) 2).bind fun b8 => (f_X2_hear b8 q7.2).bind fun q9 => (if z1 = 0 then (rk q9.2 (sR q9.2 u0 8) 2).bind fun b10 => (if (sI q9.2 b10 5) = 0 then some ((-1 : Int64), q9.2) else (rk q9.2 (sR q9.2 u0 8) 2).bind fun b11 => some ((Int32.toInt64 (sI q9.2 b11 4)), q9.2)) else if z1 = 1 then (rk q9.2 (sR q9.2 u0 8) 2).bind fun b14 => some ((Int32.toInt64 (sI q9.2 b14 5)), q9.2) else if z1 = 2 then (rk q9.2 (sR q9.2 u0 8) 2).bind fun b16 => (f_X2_standsBehind b16 q9.2).bind fun q17 => some ((Int32.toInt64 q17.1), q17.2) else if z1 = 3 then (rk q9.2 (sR q9.2 u0 8) 2).bind fun b19 => (f_X2_didAsAhead b19 q9.2).bind fun q20 => some ((Int32.toInt64 q20.1), q20.2) else (rk q9.2 (sR q9.2 u0 8) 2).bind fun b22 => (f_X2_likelyAbove b22 q9.2).bind fun q23 => (rk q23.2 (sR q23.2 u0 8) 2).bind fun b24 => (f_X2_likelyBelow b24 q23.2).bind fun q25 => (f_X10_lowestTerms q23.1 q25.1 (z1 - (4 : Int32)) q25.2).bind fun q26 => some (q26.1, q26.2))
def g_X10_judged (o0 : Nat) (x1 : Int32) (S : PS) (post : Option Int64 → PS → Prop) : Prop :=
  ((x1 < (0 : Int32) → (post none S)) ∧ (¬ x1 < (0 : Int32) → ((((5 : Int32) < x1 → (post none S)) ∧ (¬ (5 : Int32) < x1 → (∃ b3, (rk S (sR S o0 3) 8) = some b3 ∧ (∃ b4, (rk S (sR S b3 0) 9) = some b4 ∧ ((((sI S b4 5) ≤ (0 : Int32) → (post none S)) ∧ (¬ (sI S b4 5) ≤ (0 : Int32) → (∃ qq, f_X10_judged_t30 o0 x1 S = some qq ∧ post (some qq.1) qq.2)))))))))))
set_option maxHeartbeats 4000000 in
set_option maxRecDepth 100000 in
theorem k_X10_judged (l : Launch) (hst : l.stackTraces = false) (D : va_G) (cy : Nat → ClassId) (kc : Nat → Nat) (o0 : Nat) (x1 : Int32) (S : PS) {post : Option Int64 → PS → Prop} (h : g_X10_judged o0 x1 S post) (t_o0 : tD S o0 10) : XJ l D cy kc yX10_judged cX10_judged 2 (rmK 9 255 1 6) [.ref o0, .int x1] S post := by
  refine X_body (Qc := fun sz => GJ D cy S (fun r => post (some r)) sz) (XC := fun sz => XX D cy S (post none) sz) (by decide) (Nat.le_of_ble_eq_true rfl) ?_
  intro p e s m below meth c A ls args E hr hlk hnm hA F hw hl hnt
  have hx := E.1
  have hb := E.2.1
  have hl : lv_has ls 2 [(0, .ref o0), (1, .int x1)] := hl
  have hg : Gr S S := Gr.rf
  have T30 : ∀ (u0 : Nat) (z1 : Int32) (S3 : PS) (qq : Int64 × PS) (H : Heap) (locs : List Loc) (ls : Array Slot), post (some qq.1) qq.2 → (f_X10_judged_t30 u0 z1 S3).bind some = some qq → Wd D cy A s H locs S3 → Gr S S3 → tD S3 u0 10 → lv_has ls 2 [(0, .ref u0), (1, .int z1)] → W p l e (rmK 9 255 1 6) s m args below meth c H locs 1 6 (vx_MQ below (GJ D cy S (fun r => post (some r)) s.heap.size) (XX D cy S (post none) s.heap.size) args s 1 6 A) (F0 m 30 ls []) := by
    intro u0 z1 S3 qq H locs ls hpo h hw hg t_u0 hl
    rw [f_X10_judged_t30] at h
    refine lv_aload_n hx hb dX10_judged_30 rfl (lv_at hl 0 rfl) ?_
    obtain ⟨b6, r_b6, h⟩ := bb h
    obtain ⟨r_b6, t_b6⟩ := rk_some r_b6
    refine g_R E F hw t_u0 cf10 fk_X10_47 dX10_judged_31 rfl r_b6 ?_
    refine lv_iconst (v := 0) hx hb dX10_judged_34 (by decide) ?_
    obtain ⟨q7, h_q7, h⟩ := bb h
    refine z_VV E F hw [.int (0 : Int32)] (k_X4_solveFrom l D cy kc b6 (0 : Int32) S3 h_q7 t_b6) t_b6 cf4 mk_X4_solveFrom vk_X4_solveFrom ml_X10_148 ⟨by decide, by decide⟩ rfl hl.1 rfl (Nat.le_of_ble_eq_true rfl) dX10_judged_35 ⟨(Nat.le_of_ble_eq_true rfl), (Nat.le_of_ble_eq_true rfl)⟩ (fun H locs hw hG => ?_)
    have t_u0 := hG.t t_u0
    have hg := hg.tr hG
    refine lv_aload_n hx hb dX10_judged_38 rfl (lv_at hl 0 rfl) ?_
    obtain ⟨b8, r_b8, h⟩ := bb h
    obtain ⟨r_b8, t_b8⟩ := rk_some r_b8
    refine g_R E F hw t_u0 cf10 fk_X10_70 dX10_judged_39 rfl r_b8 ?_
    obtain ⟨q9, h_q9, h⟩ := bb h
    refine z_VV E F hw [] (k_X2_hear l D cy kc b8 q7.2 h_q9 t_b8) t_b8 cf2 mk_X2_hear vk_X2_hear ml_X10_348 ⟨by decide, by decide⟩ rfl hl.1 rfl (Nat.le_of_ble_eq_true rfl) dX10_judged_42 ⟨(Nat.le_of_ble_eq_true rfl), (Nat.le_of_ble_eq_true rfl)⟩ (fun H locs hw hG => ?_)
    have t_u0 := hG.t t_u0
    have hg := hg.tr hG
    refine lv_iload_n hx hb dX10_judged_45 rfl (lv_at hl 1 rfl) ?_
    by_cases c13 : z1 = 0
    · rw [if_pos c13] at h
      refine lv_tableIn (tgt := 76) hx hb dX10_judged_46 (by rw [c13]; decide) (by rw [c13]; decide) (by rw [c13]; rfl) (by decide) ?_
      refine lv_aload_n hx hb dX10_judged_76 rfl (lv_at hl 0 rfl) ?_
      obtain ⟨b10, r_b10, h⟩ := bb h
      obtain ⟨r_b10, t_b10⟩ := rk_some r_b10
      refine g_R E F hw t_u0 cf10 fk_X10_70 dX10_judged_77 rfl r_b10 ?_
      refine g_f E F hw t_b10 cf2 fk_X10_351 dX10_judged_80 rfl ?_
      refine lv_if_ne (tgt := 92) hx hb dX10_judged_83 (by decide) (fun c12 => ?_) (fun c12 => ?_)
      · rw [if_neg c12] at h
        refine lv_aload_n hx hb dX10_judged_92 rfl (lv_at hl 0 rfl) ?_
        obtain ⟨b11, r_b11, h⟩ := bb h
        obtain ⟨r_b11, t_b11⟩ := rk_some r_b11
        refine g_R E F hw t_u0 cf10 fk_X10_70 dX10_judged_93 rfl r_b11 ?_
        refine g_f E F hw t_b11 cf2 fk_X10_356 dX10_judged_96 rfl ?_
        refine lv_i2l hx hb dX10_judged_99 rfl ?_
        obtain rfl := Option.some.inj h
        exact vx_ret (h_J E hr hlk F hA hw hg hpo (Nat.le_of_ble_eq_true rfl) (Nat.le_of_ble_eq_true rfl) dX10_judged_100)
      · rw [if_pos c12] at h
        refine lv_ldc2 hx hb E.2.2.2.1 (E.2.2.2.2 _ kl_X10_354) dX10_judged_86 ?_
        refine lv_goto (tgt := 100) hx hb dX10_judged_89 (by decide) ?_
        obtain rfl := Option.some.inj h
        exact vx_ret (h_J E hr hlk F hA hw hg hpo (Nat.le_of_ble_eq_true rfl) (Nat.le_of_ble_eq_true rfl) dX10_judged_100)
    rw [if_neg c13] at h
    by_cases c15 : z1 = 1
    · rw [if_pos c15] at h
      refine lv_tableIn (tgt := 101) hx hb dX10_judged_46 (by rw [c15]; decide) (by rw [c15]; decide) (by rw [c15]; rfl) (by decide) ?_
      refine lv_aload_n hx hb dX10_judged_101 rfl (lv_at hl 0 rfl) ?_
      obtain ⟨b14, r_b14, h⟩ := bb h
      obtain ⟨r_b14, t_b14⟩ := rk_some r_b14
      refine g_R E F hw t_u0 cf10 fk_X10_70 dX10_judged_102 rfl r_b14 ?_
      refine g_f E F hw t_b14 cf2 fk_X10_351 dX10_judged_105 rfl ?_
      refine lv_i2l hx hb dX10_judged_108 rfl ?_
      obtain rfl := Option.some.inj h
      exact vx_ret (h_J E hr hlk F hA hw hg hpo (Nat.le_of_ble_eq_true rfl) (Nat.le_of_ble_eq_true rfl) dX10_judged_109)
    rw [if_neg c15] at h
    by_cases c18 : z1 = 2
    · rw [if_pos c18] at h
      refine lv_tableIn (tgt := 110) hx hb dX10_judged_46 (by rw [c18]; decide) (by rw [c18]; decide) (by rw [c18]; rfl) (by decide) ?_
      refine lv_aload_n hx hb dX10_judged_110 rfl (lv_at hl 0 rfl) ?_
      obtain ⟨b16, r_b16, h⟩ := bb h
      obtain ⟨r_b16, t_b16⟩ := rk_some r_b16
      refine g_R E F hw t_u0 cf10 fk_X10_70 dX10_judged_111 rfl r_b16 ?_
      obtain ⟨q17, h_q17, h⟩ := bb h
      refine z_VI E F hw [] (k_X2_standsBehind l D cy kc b16 q9.2 h_q17 t_b16) t_b16 cf2 mk_X2_standsBehind vk_X2_standsBehind ml_X10_359 ⟨by decide, by decide⟩ rfl hl.1 rfl (Nat.le_of_ble_eq_true rfl) dX10_judged_114 ⟨(Nat.le_of_ble_eq_true rfl), (Nat.le_of_ble_eq_true rfl)⟩ (fun H locs hw hG => ?_)
      have t_u0 := hG.t t_u0
      have hg := hg.tr hG
      refine lv_i2l hx hb dX10_judged_117 rfl ?_
      obtain rfl := Option.some.inj h
      exact vx_ret (h_J E hr hlk F hA hw hg hpo (Nat.le_of_ble_eq_true rfl) (Nat.le_of_ble_eq_true rfl) dX10_judged_118)
    rw [if_neg c18] at h
    by_cases c21 : z1 = 3
    · rw [if_pos c21] at h
      refine lv_tableIn (tgt := 119) hx hb dX10_judged_46 (by rw [c21]; decide) (by rw [c21]; decide) (by rw [c21]; rfl) (by decide) ?_
      refine lv_aload_n hx hb dX10_judged_119 rfl (lv_at hl 0 rfl) ?_
      obtain ⟨b19, r_b19, h⟩ := bb h
      obtain ⟨r_b19, t_b19⟩ := rk_some r_b19
      refine g_R E F hw t_u0 cf10 fk_X10_70 dX10_judged_120 rfl r_b19 ?_
      obtain ⟨q20, h_q20, h⟩ := bb h
      refine z_VI E F hw [] (k_X2_didAsAhead l D cy kc b19 q9.2 h_q20 t_b19) t_b19 cf2 mk_X2_didAsAhead vk_X2_didAsAhead ml_X10_362 ⟨by decide, by decide⟩ rfl hl.1 rfl (Nat.le_of_ble_eq_true rfl) dX10_judged_123 ⟨(Nat.le_of_ble_eq_true rfl), (Nat.le_of_ble_eq_true rfl)⟩ (fun H locs hw hG => ?_)
      have t_u0 := hG.t t_u0
      have hg := hg.tr hG
      refine lv_i2l hx hb dX10_judged_126 rfl ?_
      obtain rfl := Option.some.inj h
      exact vx_ret (h_J E hr hlk F hA hw hg hpo (Nat.le_of_ble_eq_true rfl) (Nat.le_of_ble_eq_true rfl) dX10_judged_127)
    rw [if_neg c21] at h
    refine lv_tableOut (tgt := 128) hx hb dX10_judged_46 (by have n0 := ne_toInt (n := 0) (z := 0) c13 (by decide); have n1 := ne_toInt (n := 1) (z := 1) c15 (by decide); have n2 := ne_toInt (n := 2) (z := 2) c18 (by decide); have n3 := ne_toInt (n := 3) (z := 3) c21 (by decide); omega) (by decide) ?_
    refine lv_aload_n hx hb dX10_judged_128 rfl (lv_at hl 0 rfl) ?_
    obtain ⟨b22, r_b22, h⟩ := bb h
    obtain ⟨r_b22, t_b22⟩ := rk_some r_b22
    refine g_R E F hw t_u0 cf10 fk_X10_70 dX10_judged_129 rfl r_b22 ?_
    obtain ⟨q23, h_q23, h⟩ := bb h
    refine z_VJ E F hw [] (k_X2_likelyAbove l D cy kc b22 q9.2 h_q23 t_b22) t_b22 cf2 mk_X2_likelyAbove vk_X2_likelyAbove ml_X10_365 ⟨by decide, by decide⟩ rfl hl.1 rfl (Nat.le_of_ble_eq_true rfl) dX10_judged_132 ⟨(Nat.le_of_ble_eq_true rfl), (Nat.le_of_ble_eq_true rfl)⟩ (fun H locs hw hG => ?_)
    have t_u0 := hG.t t_u0
    have hg := hg.tr hG
    refine lv_aload_n hx hb dX10_judged_135 rfl (lv_at hl 0 rfl) ?_
    obtain ⟨b24, r_b24, h⟩ := bb h
    obtain ⟨r_b24, t_b24⟩ := rk_some r_b24
    refine g_R E F hw t_u0 cf10 fk_X10_70 dX10_judged_136 rfl r_b24 ?_
    obtain ⟨q25, h_q25, h⟩ := bb h
    refine z_VJ E F hw [] (k_X2_likelyBelow l D cy kc b24 q23.2 h_q25 t_b24) t_b24 cf2 mk_X2_likelyBelow vk_X2_likelyBelow ml_X10_368 ⟨by decide, by decide⟩ rfl hl.1 rfl (Nat.le_of_ble_eq_true rfl) dX10_judged_139 ⟨(Nat.le_of_ble_eq_true rfl), (Nat.le_of_ble_eq_true rfl)⟩ (fun H locs hw hG => ?_)
    have t_u0 := hG.t t_u0
    have hg := hg.tr hG
    refine lv_iload_n hx hb dX10_judged_142 rfl (lv_at hl 1 rfl) ?_
    refine lv_iconst (v := 4) hx hb dX10_judged_143 (by decide) ?_
    refine lv_isub hx hb dX10_judged_144 ?_
    obtain ⟨q26, h_q26, h⟩ := bb h
    refine z_SJ E F hw [.long q23.1, .long q25.1, .int (z1 - (4 : Int32))] (k_X10_lowestTerms l D cy kc q23.1 q25.1 (z1 - (4 : Int32)) q25.2 h_q26) mk_X10_lowestTerms sk_X10_lowestTerms ml_X10_168 ⟨by decide, by decide⟩ rfl hl.1 rfl (Nat.le_of_ble_eq_true rfl) dX10_judged_145 ⟨(Nat.le_of_ble_eq_true rfl), (Nat.le_of_ble_eq_true rfl)⟩ (fun H locs hw hG => ?_)
    have t_u0 := hG.t t_u0
    have hg := hg.tr hG
    obtain rfl := Option.some.inj h
    exact vx_ret (h_J E hr hlk F hA hw hg hpo (Nat.le_of_ble_eq_true rfl) (Nat.le_of_ble_eq_true rfl) dX10_judged_148)
  rw [g_X10_judged] at h
  refine lv_iload_n hx hb dX10_judged_0 rfl (lv_at hl 1 rfl) ?_
  refine lv_if_lt (tgt := 26) hx hb dX10_judged_1 (by decide) (fun c1 => ?_) (fun c1 => ?_)
  · replace h := h.1 c1
    refine lv_iconst (v := 0) hx hb dX10_judged_26 (by decide) ?_
    refine x_need (K := False) E F hw hst hnt hlk hA hg ⟨fun _ => h, fun e => e rfl⟩ ml_X10_122 ⟨by decide, by decide⟩ hl.1 (Nat.le_of_ble_eq_true rfl) dX10_judged_27 ⟨(Nat.le_of_ble_eq_true rfl), (Nat.le_of_ble_eq_true rfl)⟩ ⟨(Nat.le_of_ble_eq_true rfl), (Nat.le_of_ble_eq_true rfl)⟩ (fun z => z.elim)
  · replace h := h.2 c1
    refine lv_iload_n hx hb dX10_judged_4 rfl (lv_at hl 1 rfl) ?_
    refine lv_iconst (v := 5) hx hb dX10_judged_5 (by decide) ?_
    refine lv_icmp_gt (tgt := 26) hx hb dX10_judged_6 (by decide) (fun c2 => ?_) (fun c2 => ?_)
    · replace h := h.1 c2
      refine lv_iconst (v := 0) hx hb dX10_judged_26 (by decide) ?_
      refine x_need (K := False) E F hw hst hnt hlk hA hg ⟨fun _ => h, fun e => e rfl⟩ ml_X10_122 ⟨by decide, by decide⟩ hl.1 (Nat.le_of_ble_eq_true rfl) dX10_judged_27 ⟨(Nat.le_of_ble_eq_true rfl), (Nat.le_of_ble_eq_true rfl)⟩ ⟨(Nat.le_of_ble_eq_true rfl), (Nat.le_of_ble_eq_true rfl)⟩ (fun z => z.elim)
    · replace h := h.2 c2
      refine lv_aload_n hx hb dX10_judged_9 rfl (lv_at hl 0 rfl) ?_
      obtain ⟨b3, r_b3, h⟩ := h
      obtain ⟨r_b3, t_b3⟩ := rk_some r_b3
      refine g_R E F hw t_o0 cf10 fk_X10_34 dX10_judged_10 rfl r_b3 ?_
      obtain ⟨b4, r_b4, h⟩ := h
      obtain ⟨r_b4, t_b4⟩ := rk_some r_b4
      refine g_R E F hw t_b3 cf8 fk_X10_81 dX10_judged_13 rfl r_b4 ?_
      refine g_f E F hw t_b4 cf9 fk_X10_318 dX10_judged_16 rfl ?_
      refine lv_if_le (tgt := 26) hx hb dX10_judged_19 (by decide) (fun c5 => ?_) (fun c5 => ?_)
      · replace h := h.1 c5
        refine lv_iconst (v := 0) hx hb dX10_judged_26 (by decide) ?_
        refine x_need (K := False) E F hw hst hnt hlk hA hg ⟨fun _ => h, fun e => e rfl⟩ ml_X10_122 ⟨by decide, by decide⟩ hl.1 (Nat.le_of_ble_eq_true rfl) dX10_judged_27 ⟨(Nat.le_of_ble_eq_true rfl), (Nat.le_of_ble_eq_true rfl)⟩ ⟨(Nat.le_of_ble_eq_true rfl), (Nat.le_of_ble_eq_true rfl)⟩ (fun z => z.elim)
      · replace h := h.2 c5
        refine lv_iconst (v := 1) hx hb dX10_judged_22 (by decide) ?_
        refine lv_goto (tgt := 27) hx hb dX10_judged_23 (by decide) ?_
        refine x_need (K := True) E F hw hst hnt hlk hA hg ⟨fun e => absurd e (by decide), fun _ => trivial⟩ ml_X10_122 ⟨by decide, by decide⟩ hl.1 (Nat.le_of_ble_eq_true rfl) dX10_judged_27 ⟨(Nat.le_of_ble_eq_true rfl), (Nat.le_of_ble_eq_true rfl)⟩ ⟨(Nat.le_of_ble_eq_true rfl), (Nat.le_of_ble_eq_true rfl)⟩ (fun _ H locs hw => ?_)
        obtain ⟨qq, h, hpo⟩ := h
        exact T30 o0 x1 S qq _ _ _ hpo (by rw [h]; rfl) hw hg t_o0 (lv_sub hl [0, 1] rfl)
def f_X10_rowFares_t51 (u0 : Nat) (z1 : Int32) (z2 : Int32) (S3 : PS) : Option (Int32 × PS) :=
  (if z2 = 0 then (rk S3 (sR S3 u0 8) 2).bind fun b12 => (f_X2_faresOf b12 z1 S3).bind fun q13 => some (q13.1, q13.2) else (rk S3 (sR S3 u0 8) 2).bind fun b14 => (f_X2_lossOf b14 z1 S3).bind fun q15 => some (q15.1, q15.2))
def g_X10_rowFares (o0 : Nat) (x1 : Int32) (x2 : Int32) (S : PS) (post : Option Int32 → PS → Prop) : Prop :=
  ∃ b1, (rk S (sR S o0 5) 4) = some b1 ∧ (∃ q2, (f_X4_solveFrom b1 (0 : Int32) S) = some q2 ∧ (∃ b3, (rk q2.2 (sR q2.2 o0 8) 2) = some b3 ∧ (∃ q4, (f_X2_hear b3 q2.2) = some q4 ∧ (((x1 < (0 : Int32) → (post none q4.2)) ∧ (¬ x1 < (0 : Int32) → (∃ b6, (rk q4.2 (sR q4.2 o0 8) 2) = some b6 ∧ ((((sI q4.2 b6 4) ≤ x1 → (post none q4.2)) ∧ (¬ (sI q4.2 b6 4) ≤ x1 → (∃ b8, (rk q4.2 (sR q4.2 o0 3) 8) = some b8 ∧ (∃ b9, (rk q4.2 (sR q4.2 b8 5) 13) = some b9 ∧ ((ib x1 (sN q4.2 b9) = true) ∧ ((((sI q4.2 b9 (Int32.toNatClampNeg x1)) = (-1 : Int32) → (post none q4.2)) ∧ (¬ (sI q4.2 b9 (Int32.toNatClampNeg x1)) = (-1 : Int32) → (∃ qq, f_X10_rowFares_t51 o0 x1 x2 q4.2 = some qq ∧ post (some qq.1) qq.2)))))))))))))))))
set_option maxHeartbeats 4000000 in
set_option maxRecDepth 100000 in
theorem k_X10_rowFares (l : Launch) (hst : l.stackTraces = false) (D : va_G) (cy : Nat → ClassId) (kc : Nat → Nat) (o0 : Nat) (x1 : Int32) (x2 : Int32) (S : PS) {post : Option Int32 → PS → Prop} (h : g_X10_rowFares o0 x1 x2 S post) (t_o0 : tD S o0 10) : XI l D cy kc yX10_rowFares cX10_rowFares 3 .int (rmK 9 255 1 6) [.ref o0, .int x1, .int x2] S post := by
  refine X_body (Qc := fun sz => GI D cy S (fun r => post (some r)) sz) (XC := fun sz => XX D cy S (post none) sz) (by decide) (Nat.le_of_ble_eq_true rfl) ?_
  intro p e s m below meth c A ls args E hr hlk hnm hA F hw hl hnt
  have hx := E.1
  have hb := E.2.1
  have hl : lv_has ls 3 [(0, .ref o0), (1, .int x1), (2, .int x2)] := hl
  have hg : Gr S S := Gr.rf
  have T51 : ∀ (u0 : Nat) (z1 : Int32) (z2 : Int32) (S3 : PS) (qq : Int32 × PS) (H : Heap) (locs : List Loc) (ls : Array Slot), post (some qq.1) qq.2 → (f_X10_rowFares_t51 u0 z1 z2 S3).bind some = some qq → Wd D cy A s H locs S3 → Gr S S3 → tD S3 u0 10 → lv_has ls 3 [(0, .ref u0), (1, .int z1), (2, .int z2)] → W p l e (rmK 9 255 1 6) s m args below meth c H locs 1 6 (vx_MQ below (GI D cy S (fun r => post (some r)) s.heap.size) (XX D cy S (post none) s.heap.size) args s 1 6 A) (F0 m 51 ls []) := by
    intro u0 z1 z2 S3 qq H locs ls hpo h hw hg t_u0 hl
    rw [f_X10_rowFares_t51] at h
    refine lv_iload_n hx hb dX10_rowFares_51 rfl (lv_at hl 2 rfl) ?_
    refine lv_if_eq (tgt := 66) hx hb dX10_rowFares_52 (by decide) (fun c16 => ?_) (fun c16 => ?_)
    · rw [if_pos c16] at h
      refine lv_aload_n hx hb dX10_rowFares_66 rfl (lv_at hl 0 rfl) ?_
      obtain ⟨b12, r_b12, h⟩ := bb h
      obtain ⟨r_b12, t_b12⟩ := rk_some r_b12
      refine g_R E F hw t_u0 cf10 fk_X10_70 dX10_rowFares_67 rfl r_b12 ?_
      refine lv_iload_n hx hb dX10_rowFares_70 rfl (lv_at hl 1 rfl) ?_
      obtain ⟨q13, h_q13, h⟩ := bb h
      refine z_VI E F hw [.int z1] (k_X2_faresOf l D cy kc b12 z1 S3 h_q13 t_b12) t_b12 cf2 mk_X2_faresOf vk_X2_faresOf ml_X10_377 ⟨by decide, by decide⟩ rfl hl.1 rfl (Nat.le_of_ble_eq_true rfl) dX10_rowFares_71 ⟨(Nat.le_of_ble_eq_true rfl), (Nat.le_of_ble_eq_true rfl)⟩ (fun H locs hw hG => ?_)
      have t_u0 := hG.t t_u0
      have hg := hg.tr hG
      obtain rfl := Option.some.inj h
      exact vx_ret (h_I E hr hlk F hA hw hg hpo (Nat.le_of_ble_eq_true rfl) (Nat.le_of_ble_eq_true rfl) dX10_rowFares_74)
    · rw [if_neg c16] at h
      refine lv_aload_n hx hb dX10_rowFares_55 rfl (lv_at hl 0 rfl) ?_
      obtain ⟨b14, r_b14, h⟩ := bb h
      obtain ⟨r_b14, t_b14⟩ := rk_some r_b14
      refine g_R E F hw t_u0 cf10 fk_X10_70 dX10_rowFares_56 rfl r_b14 ?_
      refine lv_iload_n hx hb dX10_rowFares_59 rfl (lv_at hl 1 rfl) ?_
      obtain ⟨q15, h_q15, h⟩ := bb h
      refine z_VI E F hw [.int z1] (k_X2_lossOf l D cy kc b14 z1 S3 h_q15 t_b14) t_b14 cf2 mk_X2_lossOf vk_X2_lossOf ml_X10_374 ⟨by decide, by decide⟩ rfl hl.1 rfl (Nat.le_of_ble_eq_true rfl) dX10_rowFares_60 ⟨(Nat.le_of_ble_eq_true rfl), (Nat.le_of_ble_eq_true rfl)⟩ (fun H locs hw hG => ?_)
      have t_u0 := hG.t t_u0
      have hg := hg.tr hG
      refine lv_goto (tgt := 74) hx hb dX10_rowFares_63 (by decide) ?_
      obtain rfl := Option.some.inj h
      exact vx_ret (h_I E hr hlk F hA hw hg hpo (Nat.le_of_ble_eq_true rfl) (Nat.le_of_ble_eq_true rfl) dX10_rowFares_74)
  rw [g_X10_rowFares] at h
  refine lv_aload_n hx hb dX10_rowFares_0 rfl (lv_at hl 0 rfl) ?_
  obtain ⟨b1, r_b1, h⟩ := h
  obtain ⟨r_b1, t_b1⟩ := rk_some r_b1
  refine g_R E F hw t_o0 cf10 fk_X10_47 dX10_rowFares_1 rfl r_b1 ?_
  refine lv_iconst (v := 0) hx hb dX10_rowFares_4 (by decide) ?_
  obtain ⟨q2, h_q2, h⟩ := h
  refine z_VV E F hw [.int (0 : Int32)] (k_X4_solveFrom l D cy kc b1 (0 : Int32) S h_q2 t_b1) t_b1 cf4 mk_X4_solveFrom vk_X4_solveFrom ml_X10_148 ⟨by decide, by decide⟩ rfl hl.1 rfl (Nat.le_of_ble_eq_true rfl) dX10_rowFares_5 ⟨(Nat.le_of_ble_eq_true rfl), (Nat.le_of_ble_eq_true rfl)⟩ (fun H locs hw hG => ?_)
  have t_o0 := hG.t t_o0
  have hg := hg.tr hG
  refine lv_aload_n hx hb dX10_rowFares_8 rfl (lv_at hl 0 rfl) ?_
  obtain ⟨b3, r_b3, h⟩ := h
  obtain ⟨r_b3, t_b3⟩ := rk_some r_b3
  refine g_R E F hw t_o0 cf10 fk_X10_70 dX10_rowFares_9 rfl r_b3 ?_
  obtain ⟨q4, h_q4, h⟩ := h
  refine z_VV E F hw [] (k_X2_hear l D cy kc b3 q2.2 h_q4 t_b3) t_b3 cf2 mk_X2_hear vk_X2_hear ml_X10_348 ⟨by decide, by decide⟩ rfl hl.1 rfl (Nat.le_of_ble_eq_true rfl) dX10_rowFares_12 ⟨(Nat.le_of_ble_eq_true rfl), (Nat.le_of_ble_eq_true rfl)⟩ (fun H locs hw hG => ?_)
  have t_o0 := hG.t t_o0
  have hg := hg.tr hG
  refine lv_iload_n hx hb dX10_rowFares_15 rfl (lv_at hl 1 rfl) ?_
  refine lv_if_lt (tgt := 47) hx hb dX10_rowFares_16 (by decide) (fun c5 => ?_) (fun c5 => ?_)
  · replace h := h.1 c5
    refine lv_iconst (v := 0) hx hb dX10_rowFares_47 (by decide) ?_
    refine x_need (K := False) E F hw hst hnt hlk hA hg ⟨fun _ => h, fun e => e rfl⟩ ml_X10_122 ⟨by decide, by decide⟩ hl.1 (Nat.le_of_ble_eq_true rfl) dX10_rowFares_48 ⟨(Nat.le_of_ble_eq_true rfl), (Nat.le_of_ble_eq_true rfl)⟩ ⟨(Nat.le_of_ble_eq_true rfl), (Nat.le_of_ble_eq_true rfl)⟩ (fun z => z.elim)
  · replace h := h.2 c5
    refine lv_iload_n hx hb dX10_rowFares_19 rfl (lv_at hl 1 rfl) ?_
    refine lv_aload_n hx hb dX10_rowFares_20 rfl (lv_at hl 0 rfl) ?_
    obtain ⟨b6, r_b6, h⟩ := h
    obtain ⟨r_b6, t_b6⟩ := rk_some r_b6
    refine g_R E F hw t_o0 cf10 fk_X10_70 dX10_rowFares_21 rfl r_b6 ?_
    refine g_f E F hw t_b6 cf2 fk_X10_356 dX10_rowFares_24 rfl ?_
    refine lv_icmp_ge (tgt := 47) hx hb dX10_rowFares_27 (by decide) (fun c7 => ?_) (fun c7 => ?_)
    · replace h := h.1 c7
      refine lv_iconst (v := 0) hx hb dX10_rowFares_47 (by decide) ?_
      refine x_need (K := False) E F hw hst hnt hlk hA hg ⟨fun _ => h, fun e => e rfl⟩ ml_X10_122 ⟨by decide, by decide⟩ hl.1 (Nat.le_of_ble_eq_true rfl) dX10_rowFares_48 ⟨(Nat.le_of_ble_eq_true rfl), (Nat.le_of_ble_eq_true rfl)⟩ ⟨(Nat.le_of_ble_eq_true rfl), (Nat.le_of_ble_eq_true rfl)⟩ (fun z => z.elim)
    · replace h := h.2 c7
      refine lv_aload_n hx hb dX10_rowFares_30 rfl (lv_at hl 0 rfl) ?_
      obtain ⟨b8, r_b8, h⟩ := h
      obtain ⟨r_b8, t_b8⟩ := rk_some r_b8
      refine g_R E F hw t_o0 cf10 fk_X10_34 dX10_rowFares_31 rfl r_b8 ?_
      obtain ⟨b9, r_b9, h⟩ := h
      obtain ⟨r_b9, t_b9⟩ := rk_some r_b9
      refine g_R E F hw t_b8 cf8 fk_X10_371 dX10_rowFares_34 rfl r_b9 ?_
      refine lv_iload_n hx hb dX10_rowFares_37 rfl (lv_at hl 1 rfl) ?_
      obtain ⟨c10, h⟩ := h
      refine a_i E F hw t_b9 c10 dX10_rowFares_38 ?_
      refine lv_iconst (v := (-1)) hx hb dX10_rowFares_39 (by decide) ?_
      refine lv_icmp_eq (tgt := 47) hx hb dX10_rowFares_40 (by decide) (fun c11 => ?_) (fun c11 => ?_)
      · replace h := h.1 c11
        refine lv_iconst (v := 0) hx hb dX10_rowFares_47 (by decide) ?_
        refine x_need (K := False) E F hw hst hnt hlk hA hg ⟨fun _ => h, fun e => e rfl⟩ ml_X10_122 ⟨by decide, by decide⟩ hl.1 (Nat.le_of_ble_eq_true rfl) dX10_rowFares_48 ⟨(Nat.le_of_ble_eq_true rfl), (Nat.le_of_ble_eq_true rfl)⟩ ⟨(Nat.le_of_ble_eq_true rfl), (Nat.le_of_ble_eq_true rfl)⟩ (fun z => z.elim)
      · replace h := h.2 c11
        refine lv_iconst (v := 1) hx hb dX10_rowFares_43 (by decide) ?_
        refine lv_goto (tgt := 48) hx hb dX10_rowFares_44 (by decide) ?_
        refine x_need (K := True) E F hw hst hnt hlk hA hg ⟨fun e => absurd e (by decide), fun _ => trivial⟩ ml_X10_122 ⟨by decide, by decide⟩ hl.1 (Nat.le_of_ble_eq_true rfl) dX10_rowFares_48 ⟨(Nat.le_of_ble_eq_true rfl), (Nat.le_of_ble_eq_true rfl)⟩ ⟨(Nat.le_of_ble_eq_true rfl), (Nat.le_of_ble_eq_true rfl)⟩ (fun _ H locs hw => ?_)
        obtain ⟨qq, h, hpo⟩ := h
        exact T51 o0 x1 x2 q4.2 qq _ _ _ hpo (by rw [h]; rfl) hw hg t_o0 (lv_sub hl [0, 1, 2] rfl)
def f_X10_when_104b47 (o0 : Nat) (x1 : Int32) (x2 : Int32) (z6 : Int32) (z7 : Int64) (S3 : PS) : Option ((Int32 × Int64 × Int32 × PS) ⊕ ((Int64 × PS) ⊕ (Int32 × Int64 × PS))) :=
  some (.inl (z6, z7, z6 + 1, S3))
def f_X10_when_b47 (o0 : Nat) (x1 : Int32) (x2 : Int32) (x3 : Int32) (x4 : Int64) (x6 : Int32) (S1 : PS) : Option ((Int32 × Int64 × Int32 × PS) ⊕ ((Int64 × PS) ⊕ (Int32 × Int64 × PS))) :=
  (if (6 : Int32) < x6 then some (.inr (.inr (x3, x4, S1))) else (f_X10_isForeseen o0 x6 S1).bind fun q9 => (if q9.1 = 0 then some (.inl (x3, x4, x6 + 1, q9.2)) else (rk q9.2 (sR q9.2 o0 3) 8).bind fun b10 => (rk q9.2 (sR q9.2 b10 0) 9).bind fun b11 => (f_X9_chanceIn b11 x6 x1 q9.2).bind fun q12 => (if q12.1 ≤ 0 then some (.inl (x3, x4, x6 + 1, q12.2)) else (rk q12.2 (sR q12.2 o0 6) 3).bind fun b13 => (f_X3_hopesOf b13 x6 x1 q12.2).bind fun q14 => (if x3 = (-1 : Int32) then f_X10_when_104b47 o0 x1 x2 x6 q14.1 q14.2 else (if (lg_cmp q14.1 x4) ≤ 0 then some (.inl (x3, x4, x6 + 1, q14.2)) else f_X10_when_104b47 o0 x1 x2 x6 q14.1 q14.2)))))
def f_X10_when_t130 (z2 : Int32) (z3 : Int32) (z4 : Int64) (S3 : PS) : Option (Int64 × PS) :=
  (if z2 = 0 then some ((Int32.toInt64 z3), S3) else (f_X10_lowestTerms z4 (2176782336 : Int64) (z2 - (1 : Int32)) S3).bind fun q23 => some (q23.1, q23.2))
def g_X10_when (o0 : Nat) (x1 : Int32) (x2 : Int32) (S : PS) (post : Option Int64 → PS → Prop) : Prop :=
  ∃ b1, (rk S (sR S o0 3) 8) = some b1 ∧ (∃ b2, (rk S (sR S b1 0) 9) = some b2 ∧ (∃ q3, (f_X9_hasSort b2 x1 S) = some q3 ∧ (((q3.1 = (0 : Int32) → (post none q3.2)) ∧ (¬ q3.1 = (0 : Int32) → (((x2 < (0 : Int32) → (post none q3.2)) ∧ (¬ x2 < (0 : Int32) → ((((2 : Int32) < x2 → (post none q3.2)) ∧ (¬ (2 : Int32) < x2 → (∃ b7, (rk q3.2 (sR q3.2 o0 5) 4) = some b7 ∧ (∃ q8, (f_X4_solveFrom b7 (0 : Int32) q3.2) = some q8 ∧ (∃ y21, loopN (fun a => f_X10_when_b47 o0 x1 x2 a.1 a.2.1 a.2.2.1 a.2.2.2) fu ((-1 : Int32), (0 : Int64), (0 : Int32), q8.2) = some (.inr y21) ∧ (((y21.1 = (-1 : Int32) → (post none y21.2.2)) ∧ (¬ y21.1 = (-1 : Int32) → (∃ qq, f_X10_when_t130 x2 y21.1 y21.2.1 y21.2.2 = some qq ∧ post (some qq.1) qq.2))))))))))))))))))
set_option maxHeartbeats 4000000 in
set_option maxRecDepth 100000 in
theorem k_X10_when (l : Launch) (hst : l.stackTraces = false) (D : va_G) (cy : Nat → ClassId) (kc : Nat → Nat) (o0 : Nat) (x1 : Int32) (x2 : Int32) (S : PS) {post : Option Int64 → PS → Prop} (h : g_X10_when o0 x1 x2 S post) (t_o0 : tD S o0 10) : XJ l D cy kc yX10_when cX10_when 9 (rmK 9 255 2 12) [.ref o0, .int x1, .int x2] S post := by
  refine X_body (Qc := fun sz => GJ D cy S (fun r => post (some r)) sz) (XC := fun sz => XX D cy S (post none) sz) (by decide) (Nat.le_of_ble_eq_true rfl) ?_
  intro p e s m below meth c A ls args E hr hlk hnm hA F hw hl hnt
  have hx := E.1
  have hb := E.2.1
  have hl : lv_has ls 9 [(0, .ref o0), (1, .int x1), (2, .int x2)] := hl
  have hg : Gr S S := Gr.rf
  have T130 : ∀ (z2 : Int32) (z3 : Int32) (z4 : Int64) (S3 : PS) (qq : Int64 × PS) (H : Heap) (locs : List Loc) (ls : Array Slot), post (some qq.1) qq.2 → (f_X10_when_t130 z2 z3 z4 S3).bind some = some qq → Wd D cy A s H locs S3 → Gr S S3 → lv_has ls 9 [(2, .int z2), (3, .int z3), (4, .long z4)] → W p l e (rmK 9 255 2 12) s m args below meth c H locs 2 12 (vx_MQ below (GJ D cy S (fun r => post (some r)) s.heap.size) (XX D cy S (post none) s.heap.size) args s 2 12 A) (F0 m 130 ls []) := by
    intro z2 z3 z4 S3 qq H locs ls hpo h hw hg  hl
    rw [f_X10_when_t130] at h
    refine lv_iload_n hx hb dX10_when_130 rfl (lv_at hl 0 rfl) ?_
    refine lv_if_ne (tgt := 139) hx hb dX10_when_131 (by decide) (fun c24 => ?_) (fun c24 => ?_)
    · rw [if_neg c24] at h
      refine lv_lload hx hb dX10_when_139 (lv_at hl 2 rfl) ?_
      refine lv_ldc2 hx hb E.2.2.2.1 (E.2.2.2.2 _ kl_X10_259) dX10_when_141 ?_
      refine lv_iload_n hx hb dX10_when_144 rfl (lv_at hl 0 rfl) ?_
      refine lv_iconst (v := 1) hx hb dX10_when_145 (by decide) ?_
      refine lv_isub hx hb dX10_when_146 ?_
      obtain ⟨q23, h_q23, h⟩ := bb h
      refine z_SJ E F hw [.long z4, .long (2176782336 : Int64), .int (z2 - (1 : Int32))] (k_X10_lowestTerms l D cy kc z4 (2176782336 : Int64) (z2 - (1 : Int32)) S3 h_q23) mk_X10_lowestTerms sk_X10_lowestTerms ml_X10_168 ⟨by decide, by decide⟩ rfl hl.1 rfl (Nat.le_of_ble_eq_true rfl) dX10_when_147 ⟨(Nat.le_of_ble_eq_true rfl), (Nat.le_of_ble_eq_true rfl)⟩ (fun H locs hw hG => ?_)
      have hg := hg.tr hG
      obtain rfl := Option.some.inj h
      exact vx_ret (h_J E hr hlk F hA hw hg hpo (Nat.le_of_ble_eq_true rfl) (Nat.le_of_ble_eq_true rfl) dX10_when_150)
    · rw [if_pos c24] at h
      refine lv_iload_n hx hb dX10_when_134 rfl (lv_at hl 1 rfl) ?_
      refine lv_i2l hx hb dX10_when_135 rfl ?_
      refine lv_goto (tgt := 150) hx hb dX10_when_136 (by decide) ?_
      obtain rfl := Option.some.inj h
      exact vx_ret (h_J E hr hlk F hA hw hg hpo (Nat.le_of_ble_eq_true rfl) (Nat.le_of_ble_eq_true rfl) dX10_when_150)
  have L47 : ∀ (o0 : Nat) (x1 : Int32) (x2 : Int32) (n : Nat) (x3 : Int32) (x4 : Int64) (x6 : Int32) (S1 : PS) (o : (Int64 × PS) ⊕ (Int32 × Int64 × PS)), loopN (fun a => f_X10_when_b47 o0 x1 x2 a.1 a.2.1 a.2.2.1 a.2.2.2) n (x3, x4, x6, S1) = some o → ∀ (H : Heap) (locs : List Loc) (ls : Array Slot), Wd D cy A s H locs S1 → Gr S S1 → tD S1 o0 10 → lv_has ls 9 [(0, .ref o0), (1, .int x1), (2, .int x2), (3, .int x3), (4, .long x4), (6, .int x6)] → (∀ (e0 : Int32) (e1 : Int64) (S2 : PS), o = .inr (e0, e1, S2) → ∀ (H : Heap) (locs : List Loc) (ls : Array Slot), Wd D cy A s H locs S2 → Gr S1 S2 → lv_has ls 9 [(2, .int x2), (3, .int e0), (4, .long e1)] → W p l e (rmK 9 255 2 12) s m args below meth c H locs 1 6 (vx_MQ below (GJ D cy S (fun r => post (some r)) s.heap.size) (XX D cy S (post none) s.heap.size) args s 2 12 A) (F0 m 117 ls [])) → (∀ q9, o = .inl q9 → False) → W p l e (rmK 9 255 2 12) s m args below meth c H locs 1 6 (vx_MQ below (GJ D cy S (fun r => post (some r)) s.heap.size) (XX D cy S (post none) s.heap.size) args s 2 12 A) (F0 m 47 ls []) := by
    intro o0 x1 x2 n
    induction n with
    | zero => intro x3 x4 x6 S1 o h; exact absurd h (by simp [loopN])
    | succ n ih =>
      intro x3 x4 x6 S1 o h H locs ls hw hG0 t_o0 hl hx2 hq2
      have hg : Gr S1 S1 := Gr.rf
      replace h : (f_X10_when_b47 o0 x1 x2 x3 x4 x6 S1).bind (Sum.elim (loopN (fun a => f_X10_when_b47 o0 x1 x2 a.1 a.2.1 a.2.2.1 a.2.2.2) n) some) = some o := h
      have J104 : ∀ (z6 : Int32) (z7 : Int64) (S3 : PS) (H : Heap) (locs : List Loc) (ls : Array Slot), (f_X10_when_104b47 o0 x1 x2 z6 z7 S3).bind (Sum.elim (loopN (fun a => f_X10_when_b47 o0 x1 x2 a.1 a.2.1 a.2.2.1 a.2.2.2) n) some) = some o → Wd D cy A s H locs S3 → Gr S1 S3 → tD S3 o0 10 → lv_has ls 9 [(0, .ref o0), (1, .int x1), (2, .int x2), (6, .int z6), (7, .long z7)] → W p l e (rmK 9 255 2 12) s m args below meth c H locs 1 6 (vx_MQ below (GJ D cy S (fun r => post (some r)) s.heap.size) (XX D cy S (post none) s.heap.size) args s 2 12 A) (F0 m 104 ls []) := by
        intro z6 z7 S3 H locs ls h hw hg t_o0 hl
        rw [f_X10_when_104b47] at h
        refine lv_iload hx hb dX10_when_104 (lv_at hl 3 rfl) ?_
        refine lv_istore_n (lv' := [(3, .int z6), (0, .ref o0), (1, .int x1), (2, .int x2), (6, .int z6), (7, .long z7)]) hx hb dX10_when_106 rfl hl (by decide) rfl (fun ls hl => ?_)
        refine lv_lload hx hb dX10_when_107 (lv_at hl 5 rfl) ?_
        refine lv_lstore (lv' := [(4, .long z7), (3, .int z6), (0, .ref o0), (1, .int x1), (2, .int x2), (6, .int z6), (7, .long z7)]) hx hb dX10_when_109 hl (by decide) rfl (fun ls hl => ?_)
        refine lv_iinc (v := z6 + 1) (lv' := [(6, .int (z6 + 1)), (4, .long z7), (3, .int z6), (0, .ref o0), (1, .int x1), (2, .int x2), (7, .long z7)]) hx hb dX10_when_111 hl (k := 5) rfl rfl (by decide) rfl (fun ls hl => ?_)
        refine lv_goto (tgt := 47) hx hb dX10_when_114 (by decide) ?_
        exact ih z6 z7 (z6 + 1) S3 _ h _ _ _ hw (hG0.tr hg) t_o0 (lv_sub hl [3, 4, 5, 2, 1, 0] rfl) (fun e0 e1 S2 he H locs ls hw hG hl => hx2 e0 e1 S2 he H locs ls hw (hg.tr hG) hl) hq2
      rw [f_X10_when_b47] at h
      refine lv_iload hx hb dX10_when_47 (lv_at hl 5 rfl) ?_
      refine lv_bipush (v := 6) hx hb dX10_when_49 (by decide) ?_
      refine lv_icmp_gt (tgt := 117) hx hb dX10_when_51 (by decide) (fun c19 => ?_) (fun c19 => ?_)
      · rw [if_pos c19] at h
        obtain rfl := Option.some.inj h
        exact hx2 x3 x4 S1 rfl _ _ _ hw hg (lv_sub hl [2, 3, 4] rfl)
      · rw [if_neg c19] at h
        refine lv_aload_n hx hb dX10_when_54 rfl (lv_at hl 0 rfl) ?_
        refine lv_iload hx hb dX10_when_55 (lv_at hl 5 rfl) ?_
        obtain ⟨q9, h_q9, h⟩ := bb h
        refine z_VI E F hw [.int x6] (k_X10_isForeseen l D cy kc o0 x6 S1 h_q9 t_o0) t_o0 cf10 mk_X10_isForeseen vk_X10_isForeseen ml_X10_184 ⟨by decide, by decide⟩ rfl hl.1 rfl (Nat.le_of_ble_eq_true rfl) dX10_when_57 ⟨(Nat.le_of_ble_eq_true rfl), (Nat.le_of_ble_eq_true rfl)⟩ (fun H locs hw hG => ?_)
        have t_o0 := hG.t t_o0
        have hg := hg.tr hG
        refine lv_if_eq (tgt := 111) hx hb dX10_when_60 (by decide) (fun c18 => ?_) (fun c18 => ?_)
        · rw [if_pos c18] at h
          refine lv_iinc (v := x6 + 1) (lv' := [(6, .int (x6 + 1)), (0, .ref o0), (1, .int x1), (2, .int x2), (3, .int x3), (4, .long x4)]) hx hb dX10_when_111 hl (k := 5) rfl rfl (by decide) rfl (fun ls hl => ?_)
          refine lv_goto (tgt := 47) hx hb dX10_when_114 (by decide) ?_
          exact ih x3 x4 (x6 + 1) q9.2 _ h _ _ _ hw (hG0.tr hg) t_o0 (lv_sub hl [1, 2, 3, 4, 5, 0] rfl) (fun e0 e1 S2 he H locs ls hw hG hl => hx2 e0 e1 S2 he H locs ls hw (hg.tr hG) hl) hq2
        · rw [if_neg c18] at h
          refine lv_aload_n hx hb dX10_when_63 rfl (lv_at hl 0 rfl) ?_
          obtain ⟨b10, r_b10, h⟩ := bb h
          obtain ⟨r_b10, t_b10⟩ := rk_some r_b10
          refine g_R E F hw t_o0 cf10 fk_X10_34 dX10_when_64 rfl r_b10 ?_
          obtain ⟨b11, r_b11, h⟩ := bb h
          obtain ⟨r_b11, t_b11⟩ := rk_some r_b11
          refine g_R E F hw t_b10 cf8 fk_X10_81 dX10_when_67 rfl r_b11 ?_
          refine lv_iload hx hb dX10_when_70 (lv_at hl 5 rfl) ?_
          refine lv_iload_n hx hb dX10_when_72 rfl (lv_at hl 1 rfl) ?_
          obtain ⟨q12, h_q12, h⟩ := bb h
          refine z_VI E F hw [.int x6, .int x1] (k_X9_chanceIn l D cy kc b11 x6 x1 q9.2 h_q12 t_b11) t_b11 cf9 mk_X9_chanceIn vk_X9_chanceIn ml_X10_378 ⟨by decide, by decide⟩ rfl hl.1 rfl (Nat.le_of_ble_eq_true rfl) dX10_when_73 ⟨(Nat.le_of_ble_eq_true rfl), (Nat.le_of_ble_eq_true rfl)⟩ (fun H locs hw hG => ?_)
          have t_o0 := hG.t t_o0
          have hg := hg.tr hG
          refine lv_if_le (tgt := 111) hx hb dX10_when_76 (by decide) (fun c17 => ?_) (fun c17 => ?_)
          · rw [if_pos c17] at h
            refine lv_iinc (v := x6 + 1) (lv' := [(6, .int (x6 + 1)), (0, .ref o0), (1, .int x1), (2, .int x2), (3, .int x3), (4, .long x4)]) hx hb dX10_when_111 hl (k := 5) rfl rfl (by decide) rfl (fun ls hl => ?_)
            refine lv_goto (tgt := 47) hx hb dX10_when_114 (by decide) ?_
            exact ih x3 x4 (x6 + 1) q12.2 _ h _ _ _ hw (hG0.tr hg) t_o0 (lv_sub hl [1, 2, 3, 4, 5, 0] rfl) (fun e0 e1 S2 he H locs ls hw hG hl => hx2 e0 e1 S2 he H locs ls hw (hg.tr hG) hl) hq2
          · rw [if_neg c17] at h
            refine lv_aload_n hx hb dX10_when_79 rfl (lv_at hl 0 rfl) ?_
            obtain ⟨b13, r_b13, h⟩ := bb h
            obtain ⟨r_b13, t_b13⟩ := rk_some r_b13
            refine g_R E F hw t_o0 cf10 fk_X10_56 dX10_when_80 rfl r_b13 ?_
            refine lv_iload hx hb dX10_when_83 (lv_at hl 5 rfl) ?_
            refine lv_iload_n hx hb dX10_when_85 rfl (lv_at hl 1 rfl) ?_
            obtain ⟨q14, h_q14, h⟩ := bb h
            refine z_VJ E F hw [.int x6, .int x1] (k_X3_hopesOf l D cy kc b13 x6 x1 q12.2 h_q14 t_b13) t_b13 cf3 mk_X3_hopesOf vk_X3_hopesOf ml_X10_255 ⟨by decide, by decide⟩ rfl hl.1 rfl (Nat.le_of_ble_eq_true rfl) dX10_when_86 ⟨(Nat.le_of_ble_eq_true rfl), (Nat.le_of_ble_eq_true rfl)⟩ (fun H locs hw hG => ?_)
            have t_o0 := hG.t t_o0
            have hg := hg.tr hG
            refine lv_lstore (lv' := [(7, .long q14.1), (0, .ref o0), (1, .int x1), (2, .int x2), (3, .int x3), (4, .long x4), (6, .int x6)]) hx hb dX10_when_89 hl (by decide) rfl (fun ls hl => ?_)
            refine lv_iload_n hx hb dX10_when_91 rfl (lv_at hl 4 rfl) ?_
            refine lv_iconst (v := (-1)) hx hb dX10_when_92 (by decide) ?_
            refine lv_icmp_eq (tgt := 104) hx hb dX10_when_93 (by decide) (fun c16 => ?_) (fun c16 => ?_)
            · rw [if_pos c16] at h
              exact J104 x6 q14.1 q14.2 _ _ _ h hw hg t_o0 (lv_sub hl [1, 2, 3, 6, 0] rfl)
            · rw [if_neg c16] at h
              refine lv_lload hx hb dX10_when_96 (lv_at hl 0 rfl) ?_
              refine lv_lload hx hb dX10_when_98 (lv_at hl 5 rfl) ?_
              refine W.lcmp hx hb dX10_when_100 ?_
              refine lv_if_le (tgt := 111) hx hb dX10_when_101 (by decide) (fun c15 => ?_) (fun c15 => ?_)
              · rw [if_pos c15] at h
                refine lv_iinc (v := x6 + 1) (lv' := [(6, .int (x6 + 1)), (7, .long q14.1), (0, .ref o0), (1, .int x1), (2, .int x2), (3, .int x3), (4, .long x4)]) hx hb dX10_when_111 hl (k := 6) rfl rfl (by decide) rfl (fun ls hl => ?_)
                refine lv_goto (tgt := 47) hx hb dX10_when_114 (by decide) ?_
                exact ih x3 x4 (x6 + 1) q14.2 _ h _ _ _ hw (hG0.tr hg) t_o0 (lv_sub hl [2, 3, 4, 5, 6, 0] rfl) (fun e0 e1 S2 he H locs ls hw hG hl => hx2 e0 e1 S2 he H locs ls hw (hg.tr hG) hl) hq2
              · rw [if_neg c15] at h
                exact J104 x6 q14.1 q14.2 _ _ _ h hw hg t_o0 (lv_sub hl [1, 2, 3, 6, 0] rfl)
  rw [g_X10_when] at h
  refine lv_aload_n hx hb dX10_when_0 rfl (lv_at hl 0 rfl) ?_
  obtain ⟨b1, r_b1, h⟩ := h
  obtain ⟨r_b1, t_b1⟩ := rk_some r_b1
  refine g_R E F hw t_o0 cf10 fk_X10_34 dX10_when_1 rfl r_b1 ?_
  obtain ⟨b2, r_b2, h⟩ := h
  obtain ⟨r_b2, t_b2⟩ := rk_some r_b2
  refine g_R E F hw t_b1 cf8 fk_X10_81 dX10_when_4 rfl r_b2 ?_
  refine lv_iload_n hx hb dX10_when_7 rfl (lv_at hl 1 rfl) ?_
  obtain ⟨q3, h_q3, h⟩ := h
  refine z_VI E F hw [.int x1] (k_X9_hasSort l D cy kc b2 x1 S h_q3 t_b2) t_b2 cf9 mk_X9_hasSort vk_X9_hasSort ml_X10_116 ⟨by decide, by decide⟩ rfl hl.1 rfl (Nat.le_of_ble_eq_true rfl) dX10_when_8 ⟨(Nat.le_of_ble_eq_true rfl), (Nat.le_of_ble_eq_true rfl)⟩ (fun H locs hw hG => ?_)
  have t_o0 := hG.t t_o0
  have hg := hg.tr hG
  refine lv_if_eq (tgt := 27) hx hb dX10_when_11 (by decide) (fun c4 => ?_) (fun c4 => ?_)
  · replace h := h.1 c4
    refine lv_iconst (v := 0) hx hb dX10_when_27 (by decide) ?_
    refine x_need (K := False) E F hw hst hnt hlk hA hg ⟨fun _ => h, fun e => e rfl⟩ ml_X10_122 ⟨by decide, by decide⟩ hl.1 (Nat.le_of_ble_eq_true rfl) dX10_when_28 ⟨(Nat.le_of_ble_eq_true rfl), (Nat.le_of_ble_eq_true rfl)⟩ ⟨(Nat.le_of_ble_eq_true rfl), (Nat.le_of_ble_eq_true rfl)⟩ (fun z => z.elim)
  · replace h := h.2 c4
    refine lv_iload_n hx hb dX10_when_14 rfl (lv_at hl 2 rfl) ?_
    refine lv_if_lt (tgt := 27) hx hb dX10_when_15 (by decide) (fun c5 => ?_) (fun c5 => ?_)
    · replace h := h.1 c5
      refine lv_iconst (v := 0) hx hb dX10_when_27 (by decide) ?_
      refine x_need (K := False) E F hw hst hnt hlk hA hg ⟨fun _ => h, fun e => e rfl⟩ ml_X10_122 ⟨by decide, by decide⟩ hl.1 (Nat.le_of_ble_eq_true rfl) dX10_when_28 ⟨(Nat.le_of_ble_eq_true rfl), (Nat.le_of_ble_eq_true rfl)⟩ ⟨(Nat.le_of_ble_eq_true rfl), (Nat.le_of_ble_eq_true rfl)⟩ (fun z => z.elim)
    · replace h := h.2 c5
      refine lv_iload_n hx hb dX10_when_18 rfl (lv_at hl 2 rfl) ?_
      refine lv_iconst (v := 2) hx hb dX10_when_19 (by decide) ?_
      refine lv_icmp_gt (tgt := 27) hx hb dX10_when_20 (by decide) (fun c6 => ?_) (fun c6 => ?_)
      · replace h := h.1 c6
        refine lv_iconst (v := 0) hx hb dX10_when_27 (by decide) ?_
        refine x_need (K := False) E F hw hst hnt hlk hA hg ⟨fun _ => h, fun e => e rfl⟩ ml_X10_122 ⟨by decide, by decide⟩ hl.1 (Nat.le_of_ble_eq_true rfl) dX10_when_28 ⟨(Nat.le_of_ble_eq_true rfl), (Nat.le_of_ble_eq_true rfl)⟩ ⟨(Nat.le_of_ble_eq_true rfl), (Nat.le_of_ble_eq_true rfl)⟩ (fun z => z.elim)
      · replace h := h.2 c6
        refine lv_iconst (v := 1) hx hb dX10_when_23 (by decide) ?_
        refine lv_goto (tgt := 28) hx hb dX10_when_24 (by decide) ?_
        refine x_need (K := True) E F hw hst hnt hlk hA hg ⟨fun e => absurd e (by decide), fun _ => trivial⟩ ml_X10_122 ⟨by decide, by decide⟩ hl.1 (Nat.le_of_ble_eq_true rfl) dX10_when_28 ⟨(Nat.le_of_ble_eq_true rfl), (Nat.le_of_ble_eq_true rfl)⟩ ⟨(Nat.le_of_ble_eq_true rfl), (Nat.le_of_ble_eq_true rfl)⟩ (fun _ H locs hw => ?_)
        refine lv_aload_n hx hb dX10_when_31 rfl (lv_at hl 0 rfl) ?_
        obtain ⟨b7, r_b7, h⟩ := h
        obtain ⟨r_b7, t_b7⟩ := rk_some r_b7
        refine g_R E F hw t_o0 cf10 fk_X10_47 dX10_when_32 rfl r_b7 ?_
        refine lv_iconst (v := 0) hx hb dX10_when_35 (by decide) ?_
        obtain ⟨q8, h_q8, h⟩ := h
        refine z_VV E F hw [.int (0 : Int32)] (k_X4_solveFrom l D cy kc b7 (0 : Int32) q3.2 h_q8 t_b7) t_b7 cf4 mk_X4_solveFrom vk_X4_solveFrom ml_X10_148 ⟨by decide, by decide⟩ rfl hl.1 rfl (Nat.le_of_ble_eq_true rfl) dX10_when_36 ⟨(Nat.le_of_ble_eq_true rfl), (Nat.le_of_ble_eq_true rfl)⟩ (fun H locs hw hG => ?_)
        have t_o0 := hG.t t_o0
        have hg := hg.tr hG
        refine lv_iconst (v := (-1)) hx hb dX10_when_39 (by decide) ?_
        refine lv_istore_n (lv' := [(3, .int (-1 : Int32)), (0, .ref o0), (1, .int x1), (2, .int x2)]) hx hb dX10_when_40 rfl hl (by decide) rfl (fun ls hl => ?_)
        refine lv_lconst (v := 0) hx hb dX10_when_41 (by decide) ?_
        refine lv_lstore (lv' := [(4, .long (0 : Int64)), (3, .int (-1 : Int32)), (0, .ref o0), (1, .int x1), (2, .int x2)]) hx hb dX10_when_42 hl (by decide) rfl (fun ls hl => ?_)
        refine lv_iconst (v := 0) hx hb dX10_when_44 (by decide) ?_
        refine lv_istore (lv' := [(6, .int (0 : Int32)), (4, .long (0 : Int64)), (3, .int (-1 : Int32)), (0, .ref o0), (1, .int x1), (2, .int x2)]) hx hb dX10_when_45 hl (by decide) rfl (fun ls hl => ?_)
        obtain ⟨y21, hy21, h⟩ := h
        refine L47 o0 x1 x2 fu (-1 : Int32) (0 : Int64) (0 : Int32) q8.2 (.inr y21) hy21 _ _ _ hw (hg) t_o0 (lv_sub hl [3, 4, 5, 2, 1, 0] rfl) (fun e0 e1 S2 he H locs ls hw hG hl => ?_) (fun r he => ?_)
        · obtain rfl := Sum.inr.inj he
          have hg := hg.tr hG
          refine lv_iload_n hx hb dX10_when_117 rfl (lv_at hl 1 rfl) ?_
          refine lv_iconst (v := (-1)) hx hb dX10_when_118 (by decide) ?_
          refine lv_icmp_eq (tgt := 126) hx hb dX10_when_119 (by decide) (fun c25 => ?_) (fun c25 => ?_)
          · replace h := h.1 c25
            refine lv_iconst (v := 0) hx hb dX10_when_126 (by decide) ?_
            refine x_need (K := False) E F hw hst hnt hlk hA hg ⟨fun _ => h, fun e => e rfl⟩ ml_X10_122 ⟨by decide, by decide⟩ hl.1 (Nat.le_of_ble_eq_true rfl) dX10_when_127 ⟨(Nat.le_of_ble_eq_true rfl), (Nat.le_of_ble_eq_true rfl)⟩ ⟨(Nat.le_of_ble_eq_true rfl), (Nat.le_of_ble_eq_true rfl)⟩ (fun z => z.elim)
          · replace h := h.2 c25
            refine lv_iconst (v := 1) hx hb dX10_when_122 (by decide) ?_
            refine lv_goto (tgt := 127) hx hb dX10_when_123 (by decide) ?_
            refine x_need (K := True) E F hw hst hnt hlk hA hg ⟨fun e => absurd e (by decide), fun _ => trivial⟩ ml_X10_122 ⟨by decide, by decide⟩ hl.1 (Nat.le_of_ble_eq_true rfl) dX10_when_127 ⟨(Nat.le_of_ble_eq_true rfl), (Nat.le_of_ble_eq_true rfl)⟩ ⟨(Nat.le_of_ble_eq_true rfl), (Nat.le_of_ble_eq_true rfl)⟩ (fun _ H locs hw => ?_)
            obtain ⟨qq, h, hpo⟩ := h
            exact T130 x2 e0 e1 S2 qq _ _ _ hpo (by rw [h]; rfl) hw hg  (lv_sub hl [0, 1, 2] rfl)
        · exact absurd he (by simp)
