theorem zk_J0_9 : Cond.fieldLink RJ0 9 "java/lang/String" "value" "[B" ∈ LW := LW_t tb10 (k := 121) rfl rfl
theorem zk_J0_15 : Cond.fieldLink RJ0 15 "java/lang/String" "coder" "B" ∈ LW := LW_t tb10 (k := 122) rfl rfl
theorem zk_J0_38 : Cond.fieldLink RJ0 38 "java/lang/String" "COMPACT_STRINGS" "Z" ∈ LW := LW_t tb3 (k := 21) rfl rfl
theorem zk_J0_1053 : Cond.fieldLink RJ0 1053 "jdk/internal/util/Preconditions" "SIOOBE_FORMATTER" "Ljava/util/function/BiFunction;" ∈ LW := LW_t tb3 (k := 37) rfl rfl
theorem mm_J1_92 : Cond.methodLink RJ1 92 Lib.Math.max.name ∈ LW := LW_t tb3 (k := 93) rfl rfl
theorem mm_J1_38 : Cond.methodLink RJ1 38 Lib.Math.min.name ∈ LW := LW_t tb3 (k := 96) rfl rfl
theorem mm_J7_304 : Cond.methodLink RJ7 304 Lib.Math.min.name ∈ LW := LW_t tb3 (k := 223) rfl rfl
def isC (v : Int32) : Bool := decide (vp_nar .char v = v)
theorem isC_nar {v : Int32} (h : isC v = true) : narrow .char (.int v) = .int v := by
  have h1 : vp_nar .char v = v := of_decide_eq_true h
  rw [vp_nar_char] at h1
  show Value.int _ = _
  exact congrArg Value.int h1
section PoolRows3
variable {p : Program} {l : Launch} {e : Env} {R : Room} {s : State} {m : MethodId} {args : Array Value} {below : List Frame} {meth : Method} {c : Code} {H : Heap} {locs : List Loc} {cells slots : Nat} {Q : State → Prop} {cc : ByteArray} {pc nL : Nat} {ls : Array Slot} {rest : List Value} {own : String} {D : va_G} {cy : Nat → ClassId} {kc : Nat → Nat} {A : Nat → Prop} {S S0 : PS}
theorem r_N {S' : PS} {r : Int32} {ty : FieldType} (E : CallFix p m c cc nL s args LW own) (hr : meth.sig.returnType = some ty) (hlk : meth.locks = false) (F : Fx D cy kc A s) (hA : A = va_A (PW cy S0) s.heap.size) (hw : Wd D cy A s H locs S') (hG : Gr S0 S') (hb : narrow ty (.int r) = .int r) (hdg : decode cc pc = .ok (.ireturn, 1)) : W p l e R s m args below meth c H locs cells slots (MQ below (QI D cy S0 S' r s.heap.size) args s cells slots A) (F0 m pc ls [.int r]) := by
  subst hA
  exact W.zret E.1 E.2.1 hr hb (fun t ht hW => ⟨⟨r, S', rfl, ⟨rfl, rfl, hG⟩, by rw [ht]; exact hw.1, va_K.moved hW.alike F.1, hw.2.1⟩, hw.2.2.F ht⟩) hw.2.2.2.2 hdg
theorem rS (F : Fx D cy kc A s) (hw : Wd D cy A s H locs S) {i : Nat} (hi : i < 3) : ∃ cell : Cell, H[kc (2 + i)]? = some cell ∧ cell.vm.isStatics = false ∧ s.vm.findClass "java/lang/String" = some cell.cls := vk_recv (adK := fun i => kc (2 + i)) F.2.2.1.2.2.2.2.1 hi hw.2.2
theorem z_VIs (E : CallFix p m c cc nL s args LW own) (F : Fx D cy kc A s) (hw : Wd D cy A s H locs S) {y : MethodName} {bytes : ByteArray} {maxL n index : Nat} {rt : FieldType} {rm : Room} {b : Nat} {r : Int32} {S' : PS} (As : List Value) (hk : KI l D cy kc y bytes maxL rt rm (.ref b :: As) S r S') (hc : ∃ cell : Cell, H[b]? = some cell ∧ cell.vm.isStatics = false ∧ s.vm.findClass y.cls = some cell.cls) (hM : MK y bytes maxL (some rt) n) (hV : VK y) (hl : Cond.methodLink own index y ∈ LW) (hR : rm.frames + 1 ≤ R.frames ∧ 24 + (maxL + 11) + rm.locals ≤ R.locals) (hn : As.length = n) (hsz : ls.size = nL) {st : List Value} (hst : st = As.reverse ++ .ref b :: rest) (hrest : (rest.map fun v => v.category).sum ≤ 24) (hdg : decode cc pc = .ok (.invokevirtual index, 3)) (hf : cells ≤ R.cells ∧ slots ≤ R.slots)
    (kk : ∀ (H : Heap) (locs : List Loc), Wd D cy A s H locs S' → Gr S S' → W p l e R s m args below meth c H locs cells slots Q (F0 m (pc + 3) ls (.int r :: rest))) (h0 : rm.cells = 0 := by rfl) (h1 : rm.slots = 0 := by rfl) : W p l e R s m args below meth c H locs cells slots Q (F0 m pc ls st) := by
  refine va_calli (w_runV (rm := rm) E hM hV hl hR (hk H.size) ⟨PB_blind, hc, fun U hU hW => ⟨rfl, PB_of F hw hU hW⟩⟩ rfl hn hsz hst (by simpa using hrest) hdg (by rw [h0, h1]; exact hf)) hw.2.2 (fun q _ h => Wd_free F hw q h) (Wd_free F hw) (fun r1 u t H1 locs1 ht1 hvm hp hB _ _ hS => ?_)
  obtain ⟨rfl, rfl, hG⟩ := hp
  rw [h0, h1]
  exact kk H1 locs1 (Wd_back F hw ht1 hB hS) hG
end PoolRows3

def f_J3_checkIndex_8e157_9 (x0 : Int32) (x1 : Int32) (S3 : PS) : Option (Int32 × PS) :=
  none
def f_J3_checkIndex_8e157 (x0 : Int32) (x1 : Int32) (S : PS) : Option (Int32 × PS) :=
  (if x0 < 0 then f_J3_checkIndex_8e157_9 x0 x1 S else (if x0 < x1 then some (x0, S) else f_J3_checkIndex_8e157_9 x0 x1 S))
set_option maxHeartbeats 4000000 in
set_option maxRecDepth 100000 in
theorem k_J3_checkIndex_8e157_n (l : Launch) (D : va_G) (cy : Nat → ClassId) (kc : Nat → Nat) (x0 : Int32) (x1 : Int32) (S : PS) {qq : Int32 × PS} (h : f_J3_checkIndex_8e157 x0 x1 S = some qq) : KI l D cy kc yJ3_checkIndex_8e157 cJ3_checkIndex_8e157 3 .int (rmK 1 14 0 0) [.int x0, .int x1, .null] S qq.1 qq.2 := by
  refine K_body (Qc := QI D cy S qq.2 qq.1) (by decide) (Nat.le_of_ble_eq_true rfl) ?_
  intro p e s m below meth c A ls args E hr hlk hnm hA F hw hl
  have hx := E.1
  have hb := E.2.1
  have hl : lv_has ls 3 [(0, .int x0), (1, .int x1), (2, .null)] := hl
  have hg : Gr S S := Gr.rf
  replace h : (f_J3_checkIndex_8e157 x0 x1 S).bind some = some qq := by rw [h]; rfl
  have J9 : ∀  (S3 : PS) (H : Heap) (locs : List Loc) (ls : Array Slot), (f_J3_checkIndex_8e157_9 x0 x1 S3).bind some = some qq → Wd D cy A s H locs S3 → Gr S S3 → lv_has ls 3 [(0, .int x0), (1, .int x1), (2, .null)] → W p l e (rmK 1 14 0 0) s m args below meth c H locs 0 0 (MQ below (QI D cy S qq.2 qq.1 s.heap.size) args s 0 0 A) (F0 m 9 ls []) := by
    intro  S3 H locs ls h hw hg  hl
    rw [f_J3_checkIndex_8e157_9] at h
    refine lv_aload_nN hx hb dJ3_checkIndex_8e157_9 rfl (lv_at hl 2 rfl) ?_
    refine lv_iload_n hx hb dJ3_checkIndex_8e157_10 rfl (lv_at hl 0 rfl) ?_
    refine lv_iload_n hx hb dJ3_checkIndex_8e157_11 rfl (lv_at hl 1 rfl) ?_
    cases h
  rw [f_J3_checkIndex_8e157] at h
  refine lv_iload_n hx hb dJ3_checkIndex_8e157_0 rfl (lv_at hl 0 rfl) ?_
  refine lv_if_lt (tgt := 9) hx hb dJ3_checkIndex_8e157_1 (by decide) (fun c2 => ?_) (fun c2 => ?_)
  · rw [if_pos c2] at h
    exact J9  S _ _ _ h hw hg  (lv_sub hl [0, 1, 2] rfl)
  · rw [if_neg c2] at h
    refine lv_iload_n hx hb dJ3_checkIndex_8e157_4 rfl (lv_at hl 0 rfl) ?_
    refine lv_iload_n hx hb dJ3_checkIndex_8e157_5 rfl (lv_at hl 1 rfl) ?_
    refine lv_icmp_lt (tgt := 16) hx hb dJ3_checkIndex_8e157_6 (by decide) (fun c1 => ?_) (fun c1 => ?_)
    · rw [if_pos c1] at h
      refine lv_iload_n hx hb dJ3_checkIndex_8e157_16 rfl (lv_at hl 0 rfl) ?_
      obtain rfl := Option.some.inj h
      exact r_I E hr hlk F hA hw hg dJ3_checkIndex_8e157_17
    · rw [if_neg c1] at h
      exact J9  S _ _ _ h hw hg  (lv_sub hl [0, 1, 2] rfl)
set_option maxHeartbeats 4000000 in
set_option maxRecDepth 100000 in
theorem k_J3_checkIndex_8e157_q (l : Launch) (D : va_G) (cy : Nat → ClassId) (kc : Nat → Nat) (t9 : Nat) (x0 : Int32) (x1 : Int32) (S : PS) {qq : Int32 × PS} (h : f_J3_checkIndex_8e157 x0 x1 S = some qq) : KI l D cy kc yJ3_checkIndex_8e157 cJ3_checkIndex_8e157 3 .int (rmK 1 14 0 0) [.int x0, .int x1, .ref t9] S qq.1 qq.2 := by
  refine K_body (Qc := QI D cy S qq.2 qq.1) (by decide) (Nat.le_of_ble_eq_true rfl) ?_
  intro p e s m below meth c A ls args E hr hlk hnm hA F hw hl
  have hx := E.1
  have hb := E.2.1
  have hl : lv_has ls 3 [(0, .int x0), (1, .int x1), (2, .ref t9)] := hl
  have hg : Gr S S := Gr.rf
  replace h : (f_J3_checkIndex_8e157 x0 x1 S).bind some = some qq := by rw [h]; rfl
  have J9 : ∀  (S3 : PS) (H : Heap) (locs : List Loc) (ls : Array Slot), (f_J3_checkIndex_8e157_9 x0 x1 S3).bind some = some qq → Wd D cy A s H locs S3 → Gr S S3 → lv_has ls 3 [(0, .int x0), (1, .int x1), (2, .ref t9)] → W p l e (rmK 1 14 0 0) s m args below meth c H locs 0 0 (MQ below (QI D cy S qq.2 qq.1 s.heap.size) args s 0 0 A) (F0 m 9 ls []) := by
    intro  S3 H locs ls h hw hg  hl
    rw [f_J3_checkIndex_8e157_9] at h
    refine lv_aload_n hx hb dJ3_checkIndex_8e157_9 rfl (lv_at hl 2 rfl) ?_
    refine lv_iload_n hx hb dJ3_checkIndex_8e157_10 rfl (lv_at hl 0 rfl) ?_
    refine lv_iload_n hx hb dJ3_checkIndex_8e157_11 rfl (lv_at hl 1 rfl) ?_
    cases h
  rw [f_J3_checkIndex_8e157] at h
  refine lv_iload_n hx hb dJ3_checkIndex_8e157_0 rfl (lv_at hl 0 rfl) ?_
  refine lv_if_lt (tgt := 9) hx hb dJ3_checkIndex_8e157_1 (by decide) (fun c2 => ?_) (fun c2 => ?_)
  · rw [if_pos c2] at h
    exact J9  S _ _ _ h hw hg  (lv_sub hl [0, 1, 2] rfl)
  · rw [if_neg c2] at h
    refine lv_iload_n hx hb dJ3_checkIndex_8e157_4 rfl (lv_at hl 0 rfl) ?_
    refine lv_iload_n hx hb dJ3_checkIndex_8e157_5 rfl (lv_at hl 1 rfl) ?_
    refine lv_icmp_lt (tgt := 16) hx hb dJ3_checkIndex_8e157_6 (by decide) (fun c1 => ?_) (fun c1 => ?_)
    · rw [if_pos c1] at h
      refine lv_iload_n hx hb dJ3_checkIndex_8e157_16 rfl (lv_at hl 0 rfl) ?_
      obtain rfl := Option.some.inj h
      exact r_I E hr hlk F hA hw hg dJ3_checkIndex_8e157_17
    · rw [if_neg c1] at h
      exact J9  S _ _ _ h hw hg  (lv_sub hl [0, 1, 2] rfl)
def f_J0_checkIndex_df160 (x0 : Int32) (x1 : Int32) (S : PS) : Option (Unit × PS) :=
  (f_J3_checkIndex_8e157 x0 x1 S).bind fun q1 => some ((), q1.2)
set_option maxHeartbeats 4000000 in
set_option maxRecDepth 100000 in
theorem k_J0_checkIndex_df160 (l : Launch) (D : va_G) (cy : Nat → ClassId) (kc : Nat → Nat) (x0 : Int32) (x1 : Int32) (S : PS) {qq : Unit × PS} (h : f_J0_checkIndex_df160 x0 x1 S = some qq) : KV l D cy kc yJ0_checkIndex_df160 cJ0_checkIndex_df160 2 (rmK 2 52 0 0) [.int x0, .int x1] S qq.2 := by
  refine K_body (Qc := QV D cy S qq.2) (by decide) (Nat.le_of_ble_eq_true rfl) ?_
  intro p e s m below meth c A ls args E hr hlk hnm hA F hw hl
  have hx := E.1
  have hb := E.2.1
  have hl : lv_has ls 2 [(0, .int x0), (1, .int x1)] := hl
  have hg : Gr S S := Gr.rf
  replace h : (f_J0_checkIndex_df160 x0 x1 S).bind some = some qq := by rw [h]; rfl
  rw [f_J0_checkIndex_df160] at h
  refine lv_iload_n hx hb dJ0_checkIndex_df160_0 rfl (lv_at hl 0 rfl) ?_
  refine lv_iload_n hx hb dJ0_checkIndex_df160_1 rfl (lv_at hl 1 rfl) ?_
  rcases F.2.2.1.2.2.2.2.2.2.2.2 with hz | ⟨t9, hz⟩
  · refine z_get E F hw hz zk_J0_1053 dJ0_checkIndex_df160_2 ?_
    obtain ⟨q1, h_q1, h⟩ := bb h
    refine z_SI E F hw [.int x0, .int x1, .null] (k_J3_checkIndex_8e157_n l D cy kc x0 x1 S h_q1) mk_J3_checkIndex_8e157 sk_J3_checkIndex_8e157 ml_J0_1059 ⟨by decide, by decide⟩ rfl hl.1 rfl (Nat.le_of_ble_eq_true rfl) dJ0_checkIndex_df160_5 ⟨Nat.zero_le _, Nat.zero_le _⟩ (fun H locs hw hG => ?_)
    have hg := hg.tr hG
    refine lv_pop hx hb dJ0_checkIndex_df160_8 rfl ?_
    obtain rfl := Option.some.inj h
    exact r_V E hr hlk F hA hw hg dJ0_checkIndex_df160_9
  · refine z_get E F hw hz zk_J0_1053 dJ0_checkIndex_df160_2 ?_
    obtain ⟨q2, h_q2, h⟩ := bb h
    refine z_SI E F hw [.int x0, .int x1, .ref t9] (k_J3_checkIndex_8e157_q l D cy kc t9 x0 x1 S h_q2) mk_J3_checkIndex_8e157 sk_J3_checkIndex_8e157 ml_J0_1059 ⟨by decide, by decide⟩ rfl hl.1 rfl (Nat.le_of_ble_eq_true rfl) dJ0_checkIndex_df160_5 ⟨Nat.zero_le _, Nat.zero_le _⟩ (fun H locs hw hG => ?_)
    have hg := hg.tr hG
    refine lv_pop hx hb dJ0_checkIndex_df160_8 rfl ?_
    obtain rfl := Option.some.inj h
    exact r_V E hr hlk F hA hw hg dJ0_checkIndex_df160_9
def f_J1_canEncode_9a6ad (x0 : Int32) (S : PS) : Option (Int32 × PS) :=
  (if x0 < 0 then some ((0 : Int32), S) else (if (255 : Int32) < x0 then some ((0 : Int32), S) else some ((1 : Int32), S)))
set_option maxHeartbeats 4000000 in
set_option maxRecDepth 100000 in
theorem k_J1_canEncode_9a6ad (l : Launch) (D : va_G) (cy : Nat → ClassId) (kc : Nat → Nat) (x0 : Int32) (S : PS) {qq : Int32 × PS} (h : f_J1_canEncode_9a6ad x0 S = some qq) : KI l D cy kc yJ1_canEncode_9a6ad cJ1_canEncode_9a6ad 1 .boolean (rmK 1 12 0 0) [.int x0] S qq.1 qq.2 := by
  refine K_body (Qc := QI D cy S qq.2 qq.1) (by decide) (Nat.le_of_ble_eq_true rfl) ?_
  intro p e s m below meth c A ls args E hr hlk hnm hA F hw hl
  have hx := E.1
  have hb := E.2.1
  have hl : lv_has ls 1 [(0, .int x0)] := hl
  have hg : Gr S S := Gr.rf
  replace h : (f_J1_canEncode_9a6ad x0 S).bind some = some qq := by rw [h]; rfl
  rw [f_J1_canEncode_9a6ad] at h
  refine lv_iload_n hx hb dJ1_canEncode_9a6ad_0 rfl (lv_at hl 0 rfl) ?_
  refine lv_if_lt (tgt := 15) hx hb dJ1_canEncode_9a6ad_1 (by decide) (fun c2 => ?_) (fun c2 => ?_)
  · rw [if_pos c2] at h
    refine lv_iconst (v := 0) hx hb dJ1_canEncode_9a6ad_15 (by decide) ?_
    obtain rfl := Option.some.inj h
    exact r_Z E hr hlk F hA hw hg rfl dJ1_canEncode_9a6ad_16
  · rw [if_neg c2] at h
    refine lv_iload_n hx hb dJ1_canEncode_9a6ad_4 rfl (lv_at hl 0 rfl) ?_
    refine lv_sipush (v := 255) hx hb dJ1_canEncode_9a6ad_5 (by decide) ?_
    refine lv_icmp_gt (tgt := 15) hx hb dJ1_canEncode_9a6ad_8 (by decide) (fun c1 => ?_) (fun c1 => ?_)
    · rw [if_pos c1] at h
      refine lv_iconst (v := 0) hx hb dJ1_canEncode_9a6ad_15 (by decide) ?_
      obtain rfl := Option.some.inj h
      exact r_Z E hr hlk F hA hw hg rfl dJ1_canEncode_9a6ad_16
    · rw [if_neg c1] at h
      refine lv_iconst (v := 1) hx hb dJ1_canEncode_9a6ad_11 (by decide) ?_
      refine lv_goto (tgt := 16) hx hb dJ1_canEncode_9a6ad_12 (by decide) ?_
      obtain rfl := Option.some.inj h
      exact r_Z E hr hlk F hA hw hg rfl dJ1_canEncode_9a6ad_16
def f_J0_isLatin1_aae02_s0  (S : PS) : Option (Int32 × PS) :=
  (if (1 : Int32) = 0 then some ((0 : Int32), S) else (if (0 : Int32) = 0 then some ((1 : Int32), S) else some ((0 : Int32), S)))
set_option maxHeartbeats 4000000 in
set_option maxRecDepth 100000 in
theorem k_J0_isLatin1_aae02_s0 (l : Launch) (D : va_G) (cy : Nat → ClassId) (kc : Nat → Nat)  (S : PS) {qq : Int32 × PS} (h : f_J0_isLatin1_aae02_s0  S = some qq) : KI l D cy kc yJ0_isLatin1_aae02 cJ0_isLatin1_aae02 1 .boolean (rmK 1 12 0 0) [.ref (kc 2)] S qq.1 qq.2 := by
  refine K_body (Qc := QI D cy S qq.2 qq.1) (by decide) (Nat.le_of_ble_eq_true rfl) ?_
  intro p e s m below meth c A ls args E hr hlk hnm hA F hw hl
  have hx := E.1
  have hb := E.2.1
  have hl : lv_has ls 1 [(0, .ref (kc 2))] := hl
  have hg : Gr S S := Gr.rf
  replace h : (f_J0_isLatin1_aae02_s0  S).bind some = some qq := by rw [h]; rfl
  rw [f_J0_isLatin1_aae02_s0] at h
  refine z_get E F hw F.2.2.1.2.2.2.2.2.1 zk_J0_38 dJ0_isLatin1_aae02_0 ?_
  refine lv_if_eq (tgt := 17) hx hb dJ0_isLatin1_aae02_3 (by decide) (fun c2 => ?_) (fun c2 => ?_)
  · rw [if_pos c2] at h
    refine lv_iconst (v := 0) hx hb dJ0_isLatin1_aae02_17 (by decide) ?_
    obtain rfl := Option.some.inj h
    exact r_Z E hr hlk F hA hw hg rfl dJ0_isLatin1_aae02_18
  · rw [if_neg c2] at h
    refine lv_aload_n hx hb dJ0_isLatin1_aae02_6 rfl (lv_at hl 0 rfl) ?_
    refine vk_getf hx hb (F.2.2.1.2.2.2.2.1.1 0 (by decide)).2.1 hw.2.2 E.2.2.2.1 (E.2.2.2.2 _ zk_J0_15) (fun _ h => h) dJ0_isLatin1_aae02_7 ?_
    refine lv_if_ne (tgt := 17) hx hb dJ0_isLatin1_aae02_10 (by decide) (fun c1 => ?_) (fun c1 => ?_)
    · rw [if_neg c1] at h
      refine lv_iconst (v := 0) hx hb dJ0_isLatin1_aae02_17 (by decide) ?_
      obtain rfl := Option.some.inj h
      exact r_Z E hr hlk F hA hw hg rfl dJ0_isLatin1_aae02_18
    · rw [if_pos c1] at h
      refine lv_iconst (v := 1) hx hb dJ0_isLatin1_aae02_13 (by decide) ?_
      refine lv_goto (tgt := 18) hx hb dJ0_isLatin1_aae02_14 (by decide) ?_
      obtain rfl := Option.some.inj h
      exact r_Z E hr hlk F hA hw hg rfl dJ0_isLatin1_aae02_18
def f_J0_coder_7d493_s0  (S : PS) : Option (Int32 × PS) :=
  (if (1 : Int32) = 0 then some ((1 : Int32), S) else some ((0 : Int32), S))
set_option maxHeartbeats 4000000 in
set_option maxRecDepth 100000 in
theorem k_J0_coder_7d493_s0 (l : Launch) (D : va_G) (cy : Nat → ClassId) (kc : Nat → Nat)  (S : PS) {qq : Int32 × PS} (h : f_J0_coder_7d493_s0  S = some qq) : KI l D cy kc yJ0_coder_7d493 cJ0_coder_7d493 1 .byte (rmK 1 12 0 0) [.ref (kc 2)] S qq.1 qq.2 := by
  refine K_body (Qc := QI D cy S qq.2 qq.1) (by decide) (Nat.le_of_ble_eq_true rfl) ?_
  intro p e s m below meth c A ls args E hr hlk hnm hA F hw hl
  have hx := E.1
  have hb := E.2.1
  have hl : lv_has ls 1 [(0, .ref (kc 2))] := hl
  have hg : Gr S S := Gr.rf
  replace h : (f_J0_coder_7d493_s0  S).bind some = some qq := by rw [h]; rfl
  rw [f_J0_coder_7d493_s0] at h
  refine z_get E F hw F.2.2.1.2.2.2.2.2.1 zk_J0_38 dJ0_coder_7d493_0 ?_
  refine lv_if_eq (tgt := 13) hx hb dJ0_coder_7d493_3 (by decide) (fun c1 => ?_) (fun c1 => ?_)
  · rw [if_pos c1] at h
    refine lv_iconst (v := 1) hx hb dJ0_coder_7d493_13 (by decide) ?_
    obtain rfl := Option.some.inj h
    exact r_N E hr hlk F hA hw hg rfl dJ0_coder_7d493_14
  · rw [if_neg c1] at h
    refine lv_aload_n hx hb dJ0_coder_7d493_6 rfl (lv_at hl 0 rfl) ?_
    refine vk_getf hx hb (F.2.2.1.2.2.2.2.1.1 0 (by decide)).2.1 hw.2.2 E.2.2.2.1 (E.2.2.2.2 _ zk_J0_15) (fun _ h => h) dJ0_coder_7d493_7 ?_
    refine lv_goto (tgt := 14) hx hb dJ0_coder_7d493_10 (by decide) ?_
    obtain rfl := Option.some.inj h
    exact r_N E hr hlk F hA hw hg rfl dJ0_coder_7d493_14
def f_J0_length_8abf5_s0  (S : PS) : Option (Int32 × PS) :=
  (f_J0_coder_7d493_s0  S).bind fun q1 => some (((96 : Int32) >>> (q1.1 &&& 31)), q1.2)
set_option maxHeartbeats 4000000 in
set_option maxRecDepth 100000 in
theorem k_J0_length_8abf5_s0 (l : Launch) (D : va_G) (cy : Nat → ClassId) (kc : Nat → Nat)  (S : PS) {qq : Int32 × PS} (h : f_J0_length_8abf5_s0  S = some qq) : KI l D cy kc yJ0_length_8abf5 cJ0_length_8abf5 1 .int (rmK 2 48 0 0) [.ref (kc 2)] S qq.1 qq.2 := by
  refine K_body (Qc := QI D cy S qq.2 qq.1) (by decide) (Nat.le_of_ble_eq_true rfl) ?_
  intro p e s m below meth c A ls args E hr hlk hnm hA F hw hl
  have hx := E.1
  have hb := E.2.1
  have hl : lv_has ls 1 [(0, .ref (kc 2))] := hl
  have hg : Gr S S := Gr.rf
  replace h : (f_J0_length_8abf5_s0  S).bind some = some qq := by rw [h]; rfl
  rw [f_J0_length_8abf5_s0] at h
  refine lv_aload_n hx hb dJ0_length_8abf5_0 rfl (lv_at hl 0 rfl) ?_
  refine vk_getf hx hb (F.2.2.1.2.2.2.2.1.1 0 (by decide)).2.2.1 hw.2.2 E.2.2.2.1 (E.2.2.2.2 _ zk_J0_9) (fun _ h => h) dJ0_length_8abf5_1 ?_
  refine va_tlen (v := 96) hx hb (F.2.2.1.2.2.2.2.1.1 0 (by decide)).2.2.2 hw.2.2 (by decide) dJ0_length_8abf5_4 ?_
  refine lv_aload_n hx hb dJ0_length_8abf5_5 rfl (lv_at hl 0 rfl) ?_
  obtain ⟨q1, h_q1, h⟩ := bb h
  refine z_VIs E F hw [] (k_J0_coder_7d493_s0 l D cy kc  S h_q1) (rS F hw (i := 0) (by decide)) mk_J0_coder_7d493 vk_J0_coder_7d493 ml_J0_335 ⟨by decide, by decide⟩ rfl hl.1 rfl (Nat.le_of_ble_eq_true rfl) dJ0_length_8abf5_6 ⟨Nat.zero_le _, Nat.zero_le _⟩ (fun H locs hw hG => ?_)
  have hg := hg.tr hG
  refine lv_ishr hx hb dJ0_length_8abf5_9 ?_
  obtain rfl := Option.some.inj h
  exact r_I E hr hlk F hA hw hg dJ0_length_8abf5_10
def f_J0_isLatin1_aae02_s1  (S : PS) : Option (Int32 × PS) :=
  (if (1 : Int32) = 0 then some ((0 : Int32), S) else (if (0 : Int32) = 0 then some ((1 : Int32), S) else some ((0 : Int32), S)))
set_option maxHeartbeats 4000000 in
set_option maxRecDepth 100000 in
theorem k_J0_isLatin1_aae02_s1 (l : Launch) (D : va_G) (cy : Nat → ClassId) (kc : Nat → Nat)  (S : PS) {qq : Int32 × PS} (h : f_J0_isLatin1_aae02_s1  S = some qq) : KI l D cy kc yJ0_isLatin1_aae02 cJ0_isLatin1_aae02 1 .boolean (rmK 1 12 0 0) [.ref (kc 3)] S qq.1 qq.2 := by
  refine K_body (Qc := QI D cy S qq.2 qq.1) (by decide) (Nat.le_of_ble_eq_true rfl) ?_
  intro p e s m below meth c A ls args E hr hlk hnm hA F hw hl
  have hx := E.1
  have hb := E.2.1
  have hl : lv_has ls 1 [(0, .ref (kc 3))] := hl
  have hg : Gr S S := Gr.rf
  replace h : (f_J0_isLatin1_aae02_s1  S).bind some = some qq := by rw [h]; rfl
  rw [f_J0_isLatin1_aae02_s1] at h
  refine z_get E F hw F.2.2.1.2.2.2.2.2.1 zk_J0_38 dJ0_isLatin1_aae02_0 ?_
  refine lv_if_eq (tgt := 17) hx hb dJ0_isLatin1_aae02_3 (by decide) (fun c2 => ?_) (fun c2 => ?_)
  · rw [if_pos c2] at h
    refine lv_iconst (v := 0) hx hb dJ0_isLatin1_aae02_17 (by decide) ?_
    obtain rfl := Option.some.inj h
    exact r_Z E hr hlk F hA hw hg rfl dJ0_isLatin1_aae02_18
  · rw [if_neg c2] at h
    refine lv_aload_n hx hb dJ0_isLatin1_aae02_6 rfl (lv_at hl 0 rfl) ?_
    refine vk_getf hx hb (F.2.2.1.2.2.2.2.1.1 1 (by decide)).2.1 hw.2.2 E.2.2.2.1 (E.2.2.2.2 _ zk_J0_15) (fun _ h => h) dJ0_isLatin1_aae02_7 ?_
    refine lv_if_ne (tgt := 17) hx hb dJ0_isLatin1_aae02_10 (by decide) (fun c1 => ?_) (fun c1 => ?_)
    · rw [if_neg c1] at h
      refine lv_iconst (v := 0) hx hb dJ0_isLatin1_aae02_17 (by decide) ?_
      obtain rfl := Option.some.inj h
      exact r_Z E hr hlk F hA hw hg rfl dJ0_isLatin1_aae02_18
    · rw [if_pos c1] at h
      refine lv_iconst (v := 1) hx hb dJ0_isLatin1_aae02_13 (by decide) ?_
      refine lv_goto (tgt := 18) hx hb dJ0_isLatin1_aae02_14 (by decide) ?_
      obtain rfl := Option.some.inj h
      exact r_Z E hr hlk F hA hw hg rfl dJ0_isLatin1_aae02_18
def f_J0_coder_7d493_s1  (S : PS) : Option (Int32 × PS) :=
  (if (1 : Int32) = 0 then some ((1 : Int32), S) else some ((0 : Int32), S))
set_option maxHeartbeats 4000000 in
set_option maxRecDepth 100000 in
theorem k_J0_coder_7d493_s1 (l : Launch) (D : va_G) (cy : Nat → ClassId) (kc : Nat → Nat)  (S : PS) {qq : Int32 × PS} (h : f_J0_coder_7d493_s1  S = some qq) : KI l D cy kc yJ0_coder_7d493 cJ0_coder_7d493 1 .byte (rmK 1 12 0 0) [.ref (kc 3)] S qq.1 qq.2 := by
  refine K_body (Qc := QI D cy S qq.2 qq.1) (by decide) (Nat.le_of_ble_eq_true rfl) ?_
  intro p e s m below meth c A ls args E hr hlk hnm hA F hw hl
  have hx := E.1
  have hb := E.2.1
  have hl : lv_has ls 1 [(0, .ref (kc 3))] := hl
  have hg : Gr S S := Gr.rf
  replace h : (f_J0_coder_7d493_s1  S).bind some = some qq := by rw [h]; rfl
  rw [f_J0_coder_7d493_s1] at h
  refine z_get E F hw F.2.2.1.2.2.2.2.2.1 zk_J0_38 dJ0_coder_7d493_0 ?_
  refine lv_if_eq (tgt := 13) hx hb dJ0_coder_7d493_3 (by decide) (fun c1 => ?_) (fun c1 => ?_)
  · rw [if_pos c1] at h
    refine lv_iconst (v := 1) hx hb dJ0_coder_7d493_13 (by decide) ?_
    obtain rfl := Option.some.inj h
    exact r_N E hr hlk F hA hw hg rfl dJ0_coder_7d493_14
  · rw [if_neg c1] at h
    refine lv_aload_n hx hb dJ0_coder_7d493_6 rfl (lv_at hl 0 rfl) ?_
    refine vk_getf hx hb (F.2.2.1.2.2.2.2.1.1 1 (by decide)).2.1 hw.2.2 E.2.2.2.1 (E.2.2.2.2 _ zk_J0_15) (fun _ h => h) dJ0_coder_7d493_7 ?_
    refine lv_goto (tgt := 14) hx hb dJ0_coder_7d493_10 (by decide) ?_
    obtain rfl := Option.some.inj h
    exact r_N E hr hlk F hA hw hg rfl dJ0_coder_7d493_14
def f_J0_length_8abf5_s1  (S : PS) : Option (Int32 × PS) :=
  (f_J0_coder_7d493_s1  S).bind fun q1 => some (((8 : Int32) >>> (q1.1 &&& 31)), q1.2)
set_option maxHeartbeats 4000000 in
set_option maxRecDepth 100000 in
theorem k_J0_length_8abf5_s1 (l : Launch) (D : va_G) (cy : Nat → ClassId) (kc : Nat → Nat)  (S : PS) {qq : Int32 × PS} (h : f_J0_length_8abf5_s1  S = some qq) : KI l D cy kc yJ0_length_8abf5 cJ0_length_8abf5 1 .int (rmK 2 48 0 0) [.ref (kc 3)] S qq.1 qq.2 := by
  refine K_body (Qc := QI D cy S qq.2 qq.1) (by decide) (Nat.le_of_ble_eq_true rfl) ?_
  intro p e s m below meth c A ls args E hr hlk hnm hA F hw hl
  have hx := E.1
  have hb := E.2.1
  have hl : lv_has ls 1 [(0, .ref (kc 3))] := hl
  have hg : Gr S S := Gr.rf
  replace h : (f_J0_length_8abf5_s1  S).bind some = some qq := by rw [h]; rfl
  rw [f_J0_length_8abf5_s1] at h
  refine lv_aload_n hx hb dJ0_length_8abf5_0 rfl (lv_at hl 0 rfl) ?_
  refine vk_getf hx hb (F.2.2.1.2.2.2.2.1.1 1 (by decide)).2.2.1 hw.2.2 E.2.2.2.1 (E.2.2.2.2 _ zk_J0_9) (fun _ h => h) dJ0_length_8abf5_1 ?_
  refine va_tlen (v := 8) hx hb (F.2.2.1.2.2.2.2.1.1 1 (by decide)).2.2.2 hw.2.2 (by decide) dJ0_length_8abf5_4 ?_
  refine lv_aload_n hx hb dJ0_length_8abf5_5 rfl (lv_at hl 0 rfl) ?_
  obtain ⟨q1, h_q1, h⟩ := bb h
  refine z_VIs E F hw [] (k_J0_coder_7d493_s1 l D cy kc  S h_q1) (rS F hw (i := 1) (by decide)) mk_J0_coder_7d493 vk_J0_coder_7d493 ml_J0_335 ⟨by decide, by decide⟩ rfl hl.1 rfl (Nat.le_of_ble_eq_true rfl) dJ0_length_8abf5_6 ⟨Nat.zero_le _, Nat.zero_le _⟩ (fun H locs hw hG => ?_)
  have hg := hg.tr hG
  refine lv_ishr hx hb dJ0_length_8abf5_9 ?_
  obtain rfl := Option.some.inj h
  exact r_I E hr hlk F hA hw hg dJ0_length_8abf5_10
def f_J1_charAt_3b067_s0 (x1 : Int32) (S : PS) : Option (Int32 × PS) :=
  (f_J0_checkIndex_df160 x1 (96 : Int32) S).bind fun q1 => if ib x1 (lenS.getD 0 0) = true then some (((Int32.toUInt32 (((bytS.getD 0 []).getD (Int32.toNatClampNeg x1) 0) &&& (255 : Int32))) % 65536).toInt32, q1.2) else none
set_option maxHeartbeats 4000000 in
set_option maxRecDepth 100000 in
theorem k_J1_charAt_3b067_s0 (l : Launch) (D : va_G) (cy : Nat → ClassId) (kc : Nat → Nat) (x1 : Int32) (S : PS) {qq : Int32 × PS} (h : f_J1_charAt_3b067_s0 x1 S = some qq) : KI l D cy kc yJ1_charAt_3b067 cJ1_charAt_3b067 2 .char (rmK 3 89 0 0) [.ref (kc 5), .int x1] S qq.1 qq.2 := by
  refine K_body (Qc := QI D cy S qq.2 qq.1) (by decide) (Nat.le_of_ble_eq_true rfl) ?_
  intro p e s m below meth c A ls args E hr hlk hnm hA F hw hl
  have hx := E.1
  have hb := E.2.1
  have hl : lv_has ls 2 [(0, .ref (kc 5)), (1, .int x1)] := hl
  have hg : Gr S S := Gr.rf
  replace h : (f_J1_charAt_3b067_s0 x1 S).bind some = some qq := by rw [h]; rfl
  rw [f_J1_charAt_3b067_s0] at h
  refine lv_iload_n hx hb dJ1_charAt_3b067_0 rfl (lv_at hl 1 rfl) ?_
  refine lv_aload_n hx hb dJ1_charAt_3b067_1 rfl (lv_at hl 0 rfl) ?_
  refine va_tlen (v := 96) hx hb (F.2.2.1.2.2.2.2.1.1 0 (by decide)).2.2.2 hw.2.2 (by decide) dJ1_charAt_3b067_2 ?_
  obtain ⟨q1, h_q1, h⟩ := bb h
  refine z_SV E F hw [.int x1, .int (96 : Int32)] (k_J0_checkIndex_df160 l D cy kc x1 (96 : Int32) S h_q1) mk_J0_checkIndex_df160 sk_J0_checkIndex_df160 ml_J1_9 ⟨by decide, by decide⟩ rfl hl.1 rfl (Nat.le_of_ble_eq_true rfl) dJ1_charAt_3b067_3 ⟨Nat.zero_le _, Nat.zero_le _⟩ (fun H locs hw hG => ?_)
  have hg := hg.tr hG
  refine lv_aload_n hx hb dJ1_charAt_3b067_6 rfl (lv_at hl 0 rfl) ?_
  refine lv_iload_n hx hb dJ1_charAt_3b067_7 rfl (lv_at hl 1 rfl) ?_
  obtain ⟨c2, h⟩ := bg h
  refine va_tb hx hb (F.2.2.1.2.2.2.2.1.1 0 (by decide)).2.2.2 hw.2.2 (ib_in c2) rfl dJ1_charAt_3b067_8 ?_
  refine lv_sipush (v := 255) hx hb dJ1_charAt_3b067_9 (by decide) ?_
  refine lv_iand hx hb dJ1_charAt_3b067_12 ?_
  refine lv_i2c hx hb dJ1_charAt_3b067_13 rfl ?_
  obtain rfl := Option.some.inj h
  exact r_N E hr hlk F hA hw hg (pk_nc _) dJ1_charAt_3b067_14
def f_J0_charAt_5068e_s0 (x1 : Int32) (S : PS) : Option (Int32 × PS) :=
  (f_J0_isLatin1_aae02_s0  S).bind fun q1 => (if q1.1 = 0 then none else (f_J1_charAt_3b067_s0 x1 q1.2).bind fun q2 => if isC q2.1 = true then some (q2.1, q2.2) else none)
set_option maxHeartbeats 4000000 in
set_option maxRecDepth 100000 in
theorem k_J0_charAt_5068e_s0 (l : Launch) (D : va_G) (cy : Nat → ClassId) (kc : Nat → Nat) (x1 : Int32) (S : PS) {qq : Int32 × PS} (h : f_J0_charAt_5068e_s0 x1 S = some qq) : KI l D cy kc yJ0_charAt_5068e cJ0_charAt_5068e 2 .char (rmK 4 126 0 0) [.ref (kc 2), .int x1] S qq.1 qq.2 := by
  refine K_body (Qc := QI D cy S qq.2 qq.1) (by decide) (Nat.le_of_ble_eq_true rfl) ?_
  intro p e s m below meth c A ls args E hr hlk hnm hA F hw hl
  have hx := E.1
  have hb := E.2.1
  have hl : lv_has ls 2 [(0, .ref (kc 2)), (1, .int x1)] := hl
  have hg : Gr S S := Gr.rf
  replace h : (f_J0_charAt_5068e_s0 x1 S).bind some = some qq := by rw [h]; rfl
  rw [f_J0_charAt_5068e_s0] at h
  refine lv_aload_n hx hb dJ0_charAt_5068e_0 rfl (lv_at hl 0 rfl) ?_
  obtain ⟨q1, h_q1, h⟩ := bb h
  refine z_VIs E F hw [] (k_J0_isLatin1_aae02_s0 l D cy kc  S h_q1) (rS F hw (i := 0) (by decide)) mk_J0_isLatin1_aae02 vk_J0_isLatin1_aae02 ml_J0_492 ⟨by decide, by decide⟩ rfl hl.1 rfl (Nat.le_of_ble_eq_true rfl) dJ0_charAt_5068e_1 ⟨Nat.zero_le _, Nat.zero_le _⟩ (fun H locs hw hG => ?_)
  have hg := hg.tr hG
  refine lv_if_eq (tgt := 16) hx hb dJ0_charAt_5068e_4 (by decide) (fun c4 => ?_) (fun c4 => ?_)
  · rw [if_pos c4] at h
    refine lv_aload_n hx hb dJ0_charAt_5068e_16 rfl (lv_at hl 0 rfl) ?_
    refine vk_getf hx hb (F.2.2.1.2.2.2.2.1.1 0 (by decide)).2.2.1 hw.2.2 E.2.2.2.1 (E.2.2.2.2 _ zk_J0_9) (fun _ h => h) dJ0_charAt_5068e_17 ?_
    refine lv_iload_n hx hb dJ0_charAt_5068e_20 rfl (lv_at hl 1 rfl) ?_
    cases h
  · rw [if_neg c4] at h
    refine lv_aload_n hx hb dJ0_charAt_5068e_7 rfl (lv_at hl 0 rfl) ?_
    refine vk_getf hx hb (F.2.2.1.2.2.2.2.1.1 0 (by decide)).2.2.1 hw.2.2 E.2.2.2.1 (E.2.2.2.2 _ zk_J0_9) (fun _ h => h) dJ0_charAt_5068e_8 ?_
    refine lv_iload_n hx hb dJ0_charAt_5068e_11 rfl (lv_at hl 1 rfl) ?_
    obtain ⟨q2, h_q2, h⟩ := bb h
    refine z_SI E F hw [.ref (kc 5), .int x1] (k_J1_charAt_3b067_s0 l D cy kc x1 q1.2 h_q2) mk_J1_charAt_3b067 sk_J1_charAt_3b067 ml_J0_495 ⟨by decide, by decide⟩ rfl hl.1 rfl (Nat.le_of_ble_eq_true rfl) dJ0_charAt_5068e_12 ⟨Nat.zero_le _, Nat.zero_le _⟩ (fun H locs hw hG => ?_)
    have hg := hg.tr hG
    obtain ⟨c3, h⟩ := bg h
    obtain rfl := Option.some.inj h
    exact r_N E hr hlk F hA hw hg (isC_nar c3) dJ0_charAt_5068e_15
def f_J1_indexOfChar_4cfef_s1_b7 (x3 : Int32) (x4 : Int32) (x5 : Int32) (S1 : PS) : Option ((Int32 × PS) ⊕ ((Int32 × PS) ⊕ (PS))) :=
  (if x3 ≤ x5 then some (.inr (.inr (S1))) else if ib x5 (lenS.getD 1 0) = true then (if ((bytS.getD 1 []).getD (Int32.toNatClampNeg x5) 0) = x4 then some (.inr (.inl (x5, S1))) else some (.inl (x5 + 1, S1))) else none)
def f_J1_indexOfChar_4cfef_s1_31  (S3 : PS) : Option (Int32 × PS) :=
  some ((-1 : Int32), S3)
def f_J1_indexOfChar_4cfef_s1 (x1 : Int32) (x2 : Int32) (x3 : Int32) (S : PS) : Option (Int32 × PS) :=
  (loopN (fun a => f_J1_indexOfChar_4cfef_s1_b7 x3 (Int8.toInt32 (Int32.toInt8 x1)) a.1 a.2) fu (x2, S)).bind (Sum.elim (fun r => some r) (fun a => f_J1_indexOfChar_4cfef_s1_31  a))
set_option maxHeartbeats 4000000 in
set_option maxRecDepth 100000 in
theorem k_J1_indexOfChar_4cfef_s1 (l : Launch) (D : va_G) (cy : Nat → ClassId) (kc : Nat → Nat) (x1 : Int32) (x2 : Int32) (x3 : Int32) (S : PS) {qq : Int32 × PS} (h : f_J1_indexOfChar_4cfef_s1 x1 x2 x3 S = some qq) : KI l D cy kc yJ1_indexOfChar_4cfef cJ1_indexOfChar_4cfef 6 .int (rmK 1 17 0 0) [.ref (kc 6), .int x1, .int x2, .int x3] S qq.1 qq.2 := by
  refine K_body (Qc := QI D cy S qq.2 qq.1) (by decide) (Nat.le_of_ble_eq_true rfl) ?_
  intro p e s m below meth c A ls args E hr hlk hnm hA F hw hl
  have hx := E.1
  have hb := E.2.1
  have hl : lv_has ls 6 [(0, .ref (kc 6)), (1, .int x1), (2, .int x2), (3, .int x3)] := hl
  have hg : Gr S S := Gr.rf
  replace h : (f_J1_indexOfChar_4cfef_s1 x1 x2 x3 S).bind some = some qq := by rw [h]; rfl
  have L7 : ∀ (x3 : Int32) (x4 : Int32) (n : Nat) (x5 : Int32) (S1 : PS) (o : (Int32 × PS) ⊕ (PS)), loopN (fun a => f_J1_indexOfChar_4cfef_s1_b7 x3 x4 a.1 a.2) n (x5, S1) = some o → ∀ (H : Heap) (locs : List Loc) (ls : Array Slot), Wd D cy A s H locs S1 → Gr S S1 → lv_has ls 6 [(0, .ref (kc 6)), (3, .int x3), (4, .int x4), (5, .int x5)] → (∀ (S2 : PS), o = .inr (S2) → ∀ (H : Heap) (locs : List Loc) (ls : Array Slot), Wd D cy A s H locs S2 → Gr S1 S2 → lv_has ls 6 [] → W p l e (rmK 1 17 0 0) s m args below meth c H locs 0 0 (MQ below (QI D cy S qq.2 qq.1 s.heap.size) args s 0 0 A) (F0 m 31 ls [])) → (∀ q9, o = .inl q9 → q9 = qq) → W p l e (rmK 1 17 0 0) s m args below meth c H locs 0 0 (MQ below (QI D cy S qq.2 qq.1 s.heap.size) args s 0 0 A) (F0 m 7 ls []) := by
    intro x3 x4 n
    induction n with
    | zero => intro x5 S1 o h; exact absurd h (by simp [loopN])
    | succ n ih =>
      intro x5 S1 o h H locs ls hw hG0  hl hx2 hq2
      have hg : Gr S1 S1 := Gr.rf
      replace h : (f_J1_indexOfChar_4cfef_s1_b7 x3 x4 x5 S1).bind (Sum.elim (loopN (fun a => f_J1_indexOfChar_4cfef_s1_b7 x3 x4 a.1 a.2) n) some) = some o := h
      rw [f_J1_indexOfChar_4cfef_s1_b7] at h
      refine lv_iload hx hb dJ1_indexOfChar_4cfef_7 (lv_at hl 3 rfl) ?_
      refine lv_iload_n hx hb dJ1_indexOfChar_4cfef_9 rfl (lv_at hl 1 rfl) ?_
      refine lv_icmp_ge (tgt := 31) hx hb dJ1_indexOfChar_4cfef_10 (by decide) (fun c3 => ?_) (fun c3 => ?_)
      · rw [if_pos c3] at h
        obtain rfl := Option.some.inj h
        exact hx2 S1 rfl _ _ _ hw hg (lv_sub hl [] rfl)
      · rw [if_neg c3] at h
        refine lv_aload_n hx hb dJ1_indexOfChar_4cfef_13 rfl (lv_at hl 0 rfl) ?_
        refine lv_iload hx hb dJ1_indexOfChar_4cfef_14 (lv_at hl 3 rfl) ?_
        obtain ⟨c1, h⟩ := bg h
        refine va_tb hx hb (F.2.2.1.2.2.2.2.1.1 1 (by decide)).2.2.2 hw.2.2 (ib_in c1) rfl dJ1_indexOfChar_4cfef_16 ?_
        refine lv_iload hx hb dJ1_indexOfChar_4cfef_17 (lv_at hl 2 rfl) ?_
        refine lv_icmp_ne (tgt := 25) hx hb dJ1_indexOfChar_4cfef_19 (by decide) (fun c2 => ?_) (fun c2 => ?_)
        · rw [if_neg c2] at h
          refine lv_iinc (v := x5 + 1) (lv' := [(5, .int (x5 + 1)), (0, .ref (kc 6)), (3, .int x3), (4, .int x4)]) hx hb dJ1_indexOfChar_4cfef_25 hl (k := 3) rfl rfl (by decide) rfl (fun ls hl => ?_)
          refine lv_goto (tgt := 7) hx hb dJ1_indexOfChar_4cfef_28 (by decide) ?_
          exact ih (x5 + 1) S1 _ h _ _ _ hw (hG0.tr hg)  (lv_sub hl [1, 2, 3, 0] rfl) (fun  S2 he H locs ls hw hG hl => hx2  S2 he H locs ls hw (hg.tr hG) hl) hq2
        · rw [if_pos c2] at h
          refine lv_iload hx hb dJ1_indexOfChar_4cfef_22 (lv_at hl 3 rfl) ?_
          obtain rfl := Option.some.inj h
          obtain rfl := hq2 _ rfl
          exact r_I E hr hlk F hA hw (hG0.tr hg) dJ1_indexOfChar_4cfef_24
  have J31 : ∀  (S3 : PS) (H : Heap) (locs : List Loc) (ls : Array Slot), (f_J1_indexOfChar_4cfef_s1_31  S3).bind some = some qq → Wd D cy A s H locs S3 → Gr S S3 → lv_has ls 6 [] → W p l e (rmK 1 17 0 0) s m args below meth c H locs 0 0 (MQ below (QI D cy S qq.2 qq.1 s.heap.size) args s 0 0 A) (F0 m 31 ls []) := by
    intro  S3 H locs ls h hw hg  hl
    rw [f_J1_indexOfChar_4cfef_s1_31] at h
    refine lv_iconst (v := (-1)) hx hb dJ1_indexOfChar_4cfef_31 (by decide) ?_
    obtain rfl := Option.some.inj h
    exact r_I E hr hlk F hA hw hg dJ1_indexOfChar_4cfef_32
  rw [f_J1_indexOfChar_4cfef_s1] at h
  refine lv_iload_n hx hb dJ1_indexOfChar_4cfef_0 rfl (lv_at hl 1 rfl) ?_
  refine lv_i2b hx hb dJ1_indexOfChar_4cfef_1 rfl ?_
  refine lv_istore (lv' := [(4, .int (Int8.toInt32 (Int32.toInt8 x1))), (0, .ref (kc 6)), (1, .int x1), (2, .int x2), (3, .int x3)]) hx hb dJ1_indexOfChar_4cfef_2 hl (by decide) rfl (fun ls hl => ?_)
  refine lv_iload_n hx hb dJ1_indexOfChar_4cfef_4 rfl (lv_at hl 3 rfl) ?_
  refine lv_istore (lv' := [(5, .int x2), (4, .int (Int8.toInt32 (Int32.toInt8 x1))), (0, .ref (kc 6)), (1, .int x1), (2, .int x2), (3, .int x3)]) hx hb dJ1_indexOfChar_4cfef_5 hl (by decide) rfl (fun ls hl => ?_)
  obtain ⟨y4, hy4, h⟩ := bb h
  refine L7 x3 (Int8.toInt32 (Int32.toInt8 x1)) fu x2 S y4 hy4 _ _ _ hw (hg)  (lv_sub hl [2, 5, 1, 0] rfl) (fun  S2 he H locs ls hw hG hl => ?_) (fun r he => ?_)
  · subst he
    have hg := hg.tr hG
    exact J31  S2 _ _ _ h hw hg  (lv_sub hl [] rfl)
  · subst he
    exact Option.some.inj h
def f_J1_indexOf_4cfef_s1 (x1 : Int32) (x2 : Int32) (x3 : Int32) (S : PS) : Option (Int32 × PS) :=
  (f_J1_canEncode_9a6ad x1 S).bind fun q1 => (if q1.1 = 0 then some ((-1 : Int32), q1.2) else (if (if x2 < (0 : Int32) then (0 : Int32) else x2) < (if (8 : Int32) < x3 then (8 : Int32) else x3) then (f_J1_indexOfChar_4cfef_s1 x1 (if x2 < (0 : Int32) then (0 : Int32) else x2) (if (8 : Int32) < x3 then (8 : Int32) else x3) q1.2).bind fun q2 => some (q2.1, q2.2) else some ((-1 : Int32), q1.2)))
set_option maxHeartbeats 4000000 in
set_option maxRecDepth 100000 in
theorem k_J1_indexOf_4cfef_s1 (l : Launch) (D : va_G) (cy : Nat → ClassId) (kc : Nat → Nat) (x1 : Int32) (x2 : Int32) (x3 : Int32) (S : PS) {qq : Int32 × PS} (h : f_J1_indexOf_4cfef_s1 x1 x2 x3 S = some qq) : KI l D cy kc yJ1_indexOf_4cfef cJ1_indexOf_4cfef 4 .int (rmK 2 60 0 0) [.ref (kc 6), .int x1, .int x2, .int x3] S qq.1 qq.2 := by
  refine K_body (Qc := QI D cy S qq.2 qq.1) (by decide) (Nat.le_of_ble_eq_true rfl) ?_
  intro p e s m below meth c A ls args E hr hlk hnm hA F hw hl
  have hx := E.1
  have hb := E.2.1
  have hl : lv_has ls 4 [(0, .ref (kc 6)), (1, .int x1), (2, .int x2), (3, .int x3)] := hl
  have hg : Gr S S := Gr.rf
  replace h : (f_J1_indexOf_4cfef_s1 x1 x2 x3 S).bind some = some qq := by rw [h]; rfl
  rw [f_J1_indexOf_4cfef_s1] at h
  refine lv_iload_n hx hb dJ1_indexOf_4cfef_0 rfl (lv_at hl 1 rfl) ?_
  obtain ⟨q1, h_q1, h⟩ := bb h
  refine z_SI E F hw [.int x1] (k_J1_canEncode_9a6ad l D cy kc x1 S h_q1) mk_J1_canEncode_9a6ad sk_J1_canEncode_9a6ad ml_J1_88 ⟨by decide, by decide⟩ rfl hl.1 rfl (Nat.le_of_ble_eq_true rfl) dJ1_indexOf_4cfef_1 ⟨Nat.zero_le _, Nat.zero_le _⟩ (fun H locs hw hG => ?_)
  have hg := hg.tr hG
  refine lv_if_ne (tgt := 9) hx hb dJ1_indexOf_4cfef_4 (by decide) (fun c4 => ?_) (fun c4 => ?_)
  · rw [if_neg c4] at h
    refine lv_iload_n hx hb dJ1_indexOf_4cfef_9 rfl (lv_at hl 2 rfl) ?_
    refine lv_iconst (v := 0) hx hb dJ1_indexOf_4cfef_10 (by decide) ?_
    refine va_mmax hx hb (E.2.2.1.trans hl.1.symm) E.2.2.2.1 (E.2.2.2.2 _ mm_J1_92) (E.2.2.2.2 _ mm_s_max) (E.2.2.2.2 _ mm_i) (E.2.2.2.2 _ mm_c_max) (by decide) (Nat.le_of_ble_eq_true rfl) (Nat.zero_le _) (Nat.zero_le _) dJ1_indexOf_4cfef_11 ?_
    refine lv_istore_n (lv' := [(2, .int (if x2 < (0 : Int32) then (0 : Int32) else x2)), (0, .ref (kc 6)), (1, .int x1), (3, .int x3)]) hx hb dJ1_indexOf_4cfef_14 rfl hl (by decide) rfl (fun ls hl => ?_)
    refine lv_iload_n hx hb dJ1_indexOf_4cfef_15 rfl (lv_at hl 3 rfl) ?_
    refine lv_aload_n hx hb dJ1_indexOf_4cfef_16 rfl (lv_at hl 1 rfl) ?_
    refine va_tlen (v := 8) hx hb (F.2.2.1.2.2.2.2.1.1 1 (by decide)).2.2.2 hw.2.2 (by decide) dJ1_indexOf_4cfef_17 ?_
    refine va_mmin hx hb (E.2.2.1.trans hl.1.symm) E.2.2.2.1 (E.2.2.2.2 _ mm_J1_38) (E.2.2.2.2 _ mm_s_min) (E.2.2.2.2 _ mm_i) (E.2.2.2.2 _ mm_c_min) (by decide) (Nat.le_of_ble_eq_true rfl) (Nat.zero_le _) (Nat.zero_le _) dJ1_indexOf_4cfef_18 ?_
    refine lv_istore_n (lv' := [(3, .int (if (8 : Int32) < x3 then (8 : Int32) else x3)), (2, .int (if x2 < (0 : Int32) then (0 : Int32) else x2)), (0, .ref (kc 6)), (1, .int x1)]) hx hb dJ1_indexOf_4cfef_21 rfl hl (by decide) rfl (fun ls hl => ?_)
    refine lv_iload_n hx hb dJ1_indexOf_4cfef_22 rfl (lv_at hl 1 rfl) ?_
    refine lv_iload_n hx hb dJ1_indexOf_4cfef_23 rfl (lv_at hl 0 rfl) ?_
    refine lv_icmp_lt (tgt := 29) hx hb dJ1_indexOf_4cfef_24 (by decide) (fun c3 => ?_) (fun c3 => ?_)
    · rw [if_pos c3] at h
      refine lv_aload_n hx hb dJ1_indexOf_4cfef_29 rfl (lv_at hl 2 rfl) ?_
      refine lv_iload_n hx hb dJ1_indexOf_4cfef_30 rfl (lv_at hl 3 rfl) ?_
      refine lv_iload_n hx hb dJ1_indexOf_4cfef_31 rfl (lv_at hl 1 rfl) ?_
      refine lv_iload_n hx hb dJ1_indexOf_4cfef_32 rfl (lv_at hl 0 rfl) ?_
      obtain ⟨q2, h_q2, h⟩ := bb h
      refine z_SI E F hw [.ref (kc 6), .int x1, .int (if x2 < (0 : Int32) then (0 : Int32) else x2), .int (if (8 : Int32) < x3 then (8 : Int32) else x3)] (k_J1_indexOfChar_4cfef_s1 l D cy kc x1 (if x2 < (0 : Int32) then (0 : Int32) else x2) (if (8 : Int32) < x3 then (8 : Int32) else x3) q1.2 h_q2) mk_J1_indexOfChar_4cfef sk_J1_indexOfChar_4cfef ml_J1_95 ⟨by decide, by decide⟩ rfl hl.1 rfl (Nat.le_of_ble_eq_true rfl) dJ1_indexOf_4cfef_33 ⟨Nat.zero_le _, Nat.zero_le _⟩ (fun H locs hw hG => ?_)
      have hg := hg.tr hG
      obtain rfl := Option.some.inj h
      exact r_I E hr hlk F hA hw hg dJ1_indexOf_4cfef_36
    · rw [if_neg c3] at h
      refine lv_iconst (v := (-1)) hx hb dJ1_indexOf_4cfef_27 (by decide) ?_
      obtain rfl := Option.some.inj h
      exact r_I E hr hlk F hA hw hg dJ1_indexOf_4cfef_28
  · rw [if_pos c4] at h
    refine lv_iconst (v := (-1)) hx hb dJ1_indexOf_4cfef_7 (by decide) ?_
    obtain rfl := Option.some.inj h
    exact r_I E hr hlk F hA hw hg dJ1_indexOf_4cfef_8
def f_J0_indexOf_7cf53_s1 (x1 : Int32) (x2 : Int32) (S : PS) : Option (Int32 × PS) :=
  (f_J0_isLatin1_aae02_s1  S).bind fun q1 => (if q1.1 = 0 then (f_J0_length_8abf5_s1  q1.2).bind fun q2 => none else (f_J0_length_8abf5_s1  q1.2).bind fun q3 => (f_J1_indexOf_4cfef_s1 x1 x2 q3.1 q3.2).bind fun q4 => some (q4.1, q4.2))
set_option maxHeartbeats 4000000 in
set_option maxRecDepth 100000 in
theorem k_J0_indexOf_7cf53_s1 (l : Launch) (D : va_G) (cy : Nat → ClassId) (kc : Nat → Nat) (x1 : Int32) (x2 : Int32) (S : PS) {qq : Int32 × PS} (h : f_J0_indexOf_7cf53_s1 x1 x2 S = some qq) : KI l D cy kc yJ0_indexOf_7cf53 cJ0_indexOf_7cf53 3 .int (rmK 3 99 0 0) [.ref (kc 3), .int x1, .int x2] S qq.1 qq.2 := by
  refine K_body (Qc := QI D cy S qq.2 qq.1) (by decide) (Nat.le_of_ble_eq_true rfl) ?_
  intro p e s m below meth c A ls args E hr hlk hnm hA F hw hl
  have hx := E.1
  have hb := E.2.1
  have hl : lv_has ls 3 [(0, .ref (kc 3)), (1, .int x1), (2, .int x2)] := hl
  have hg : Gr S S := Gr.rf
  replace h : (f_J0_indexOf_7cf53_s1 x1 x2 S).bind some = some qq := by rw [h]; rfl
  rw [f_J0_indexOf_7cf53_s1] at h
  refine lv_aload_n hx hb dJ0_indexOf_7cf53_0 rfl (lv_at hl 0 rfl) ?_
  obtain ⟨q1, h_q1, h⟩ := bb h
  refine z_VIs E F hw [] (k_J0_isLatin1_aae02_s1 l D cy kc  S h_q1) (rS F hw (i := 1) (by decide)) mk_J0_isLatin1_aae02 vk_J0_isLatin1_aae02 ml_J0_492 ⟨by decide, by decide⟩ rfl hl.1 rfl (Nat.le_of_ble_eq_true rfl) dJ0_indexOf_7cf53_1 ⟨Nat.zero_le _, Nat.zero_le _⟩ (fun H locs hw hG => ?_)
  have hg := hg.tr hG
  refine lv_if_eq (tgt := 23) hx hb dJ0_indexOf_7cf53_4 (by decide) (fun c5 => ?_) (fun c5 => ?_)
  · rw [if_pos c5] at h
    refine lv_aload_n hx hb dJ0_indexOf_7cf53_23 rfl (lv_at hl 0 rfl) ?_
    refine vk_getf hx hb (F.2.2.1.2.2.2.2.1.1 1 (by decide)).2.2.1 hw.2.2 E.2.2.2.1 (E.2.2.2.2 _ zk_J0_9) (fun _ h => h) dJ0_indexOf_7cf53_24 ?_
    refine lv_iload_n hx hb dJ0_indexOf_7cf53_27 rfl (lv_at hl 1 rfl) ?_
    refine lv_iload_n hx hb dJ0_indexOf_7cf53_28 rfl (lv_at hl 2 rfl) ?_
    refine lv_aload_n hx hb dJ0_indexOf_7cf53_29 rfl (lv_at hl 0 rfl) ?_
    obtain ⟨q2, h_q2, h⟩ := bb h
    refine z_VIs E F hw [] (k_J0_length_8abf5_s1 l D cy kc  q1.2 h_q2) (rS F hw (i := 1) (by decide)) mk_J0_length_8abf5 vk_J0_length_8abf5 ml_J0_505 ⟨by decide, by decide⟩ rfl hl.1 rfl (Nat.le_of_ble_eq_true rfl) dJ0_indexOf_7cf53_30 ⟨Nat.zero_le _, Nat.zero_le _⟩ (fun H locs hw hG => ?_)
    have hg := hg.tr hG
    cases h
  · rw [if_neg c5] at h
    refine lv_aload_n hx hb dJ0_indexOf_7cf53_7 rfl (lv_at hl 0 rfl) ?_
    refine vk_getf hx hb (F.2.2.1.2.2.2.2.1.1 1 (by decide)).2.2.1 hw.2.2 E.2.2.2.1 (E.2.2.2.2 _ zk_J0_9) (fun _ h => h) dJ0_indexOf_7cf53_8 ?_
    refine lv_iload_n hx hb dJ0_indexOf_7cf53_11 rfl (lv_at hl 1 rfl) ?_
    refine lv_iload_n hx hb dJ0_indexOf_7cf53_12 rfl (lv_at hl 2 rfl) ?_
    refine lv_aload_n hx hb dJ0_indexOf_7cf53_13 rfl (lv_at hl 0 rfl) ?_
    obtain ⟨q3, h_q3, h⟩ := bb h
    refine z_VIs E F hw [] (k_J0_length_8abf5_s1 l D cy kc  q1.2 h_q3) (rS F hw (i := 1) (by decide)) mk_J0_length_8abf5 vk_J0_length_8abf5 ml_J0_505 ⟨by decide, by decide⟩ rfl hl.1 rfl (Nat.le_of_ble_eq_true rfl) dJ0_indexOf_7cf53_14 ⟨Nat.zero_le _, Nat.zero_le _⟩ (fun H locs hw hG => ?_)
    have hg := hg.tr hG
    obtain ⟨q4, h_q4, h⟩ := bb h
    refine z_SI E F hw [.ref (kc 6), .int x1, .int x2, .int q3.1] (k_J1_indexOf_4cfef_s1 l D cy kc x1 x2 q3.1 q3.2 h_q4) mk_J1_indexOf_4cfef sk_J1_indexOf_4cfef ml_J0_637 ⟨by decide, by decide⟩ rfl hl.1 rfl (Nat.le_of_ble_eq_true rfl) dJ0_indexOf_7cf53_17 ⟨Nat.zero_le _, Nat.zero_le _⟩ (fun H locs hw hG => ?_)
    have hg := hg.tr hG
    refine lv_goto (tgt := 36) hx hb dJ0_indexOf_7cf53_20 (by decide) ?_
    obtain rfl := Option.some.inj h
    exact r_I E hr hlk F hA hw hg dJ0_indexOf_7cf53_36
def f_J0_indexOf_0f7a4_s1 (x1 : Int32) (S : PS) : Option (Int32 × PS) :=
  (f_J0_indexOf_7cf53_s1 x1 (0 : Int32) S).bind fun q1 => some (q1.1, q1.2)
set_option maxHeartbeats 4000000 in
set_option maxRecDepth 100000 in
theorem k_J0_indexOf_0f7a4_s1 (l : Launch) (D : va_G) (cy : Nat → ClassId) (kc : Nat → Nat) (x1 : Int32) (S : PS) {qq : Int32 × PS} (h : f_J0_indexOf_0f7a4_s1 x1 S = some qq) : KI l D cy kc yJ0_indexOf_0f7a4 cJ0_indexOf_0f7a4 2 .int (rmK 4 137 0 0) [.ref (kc 3), .int x1] S qq.1 qq.2 := by
  refine K_body (Qc := QI D cy S qq.2 qq.1) (by decide) (Nat.le_of_ble_eq_true rfl) ?_
  intro p e s m below meth c A ls args E hr hlk hnm hA F hw hl
  have hx := E.1
  have hb := E.2.1
  have hl : lv_has ls 2 [(0, .ref (kc 3)), (1, .int x1)] := hl
  have hg : Gr S S := Gr.rf
  replace h : (f_J0_indexOf_0f7a4_s1 x1 S).bind some = some qq := by rw [h]; rfl
  rw [f_J0_indexOf_0f7a4_s1] at h
  refine lv_aload_n hx hb dJ0_indexOf_0f7a4_0 rfl (lv_at hl 0 rfl) ?_
  refine lv_iload_n hx hb dJ0_indexOf_0f7a4_1 rfl (lv_at hl 1 rfl) ?_
  refine lv_iconst (v := 0) hx hb dJ0_indexOf_0f7a4_2 (by decide) ?_
  obtain ⟨q1, h_q1, h⟩ := bb h
  refine z_VIs E F hw [.int x1, .int (0 : Int32)] (k_J0_indexOf_7cf53_s1 l D cy kc x1 (0 : Int32) S h_q1) (rS F hw (i := 1) (by decide)) mk_J0_indexOf_7cf53 vk_J0_indexOf_7cf53 ml_J0_633 ⟨by decide, by decide⟩ rfl hl.1 rfl (Nat.le_of_ble_eq_true rfl) dJ0_indexOf_0f7a4_3 ⟨Nat.zero_le _, Nat.zero_le _⟩ (fun H locs hw hG => ?_)
  have hg := hg.tr hG
  obtain rfl := Option.some.inj h
  exact r_I E hr hlk F hA hw hg dJ0_indexOf_0f7a4_6
def f_X7_isKeyword_b3 (o0 : Nat) (x1 : Int32) (x2 : Int32) (x3 : Int32) (x4 : Int32) (S1 : PS) : Option ((Int32 × PS) ⊕ ((Int32 × PS) ⊕ (PS))) :=
  (if x3 ≤ x4 then some (.inr (.inr (S1))) else (f_J0_charAt_5068e_s0 x4 S1).bind fun q1 => (rk q1.2 (sR q1.2 o0 0) 12).bind fun b2 => if ib ((x1 + x4) - x2) (sN q1.2 b2) = true then (if q1.1 = (sI q1.2 b2 (Int32.toNatClampNeg ((x1 + x4) - x2))) then some (.inl (x4 + 1, q1.2)) else some (.inr (.inl ((0 : Int32), q1.2)))) else none)
def f_X7_isKeyword_38  (S3 : PS) : Option (Int32 × PS) :=
  some ((1 : Int32), S3)
def f_X7_isKeyword (o0 : Nat) (x1 : Int32) (x2 : Int32) (x3 : Int32) (S : PS) : Option (Int32 × PS) :=
  (loopN (fun a => f_X7_isKeyword_b3 o0 x1 x2 x3 a.1 a.2) fu (x2, S)).bind (Sum.elim (fun r => some r) (fun a => f_X7_isKeyword_38  a))
set_option maxHeartbeats 4000000 in
set_option maxRecDepth 100000 in
theorem k_X7_isKeyword (l : Launch) (D : va_G) (cy : Nat → ClassId) (kc : Nat → Nat) (o0 : Nat) (x1 : Int32) (x2 : Int32) (x3 : Int32) (S : PS) {qq : Int32 × PS} (h : f_X7_isKeyword o0 x1 x2 x3 S = some qq) (t_o0 : tD S o0 7) : KI l D cy kc yX7_isKeyword cX7_isKeyword 5 .boolean (rmK 5 163 0 0) [.ref o0, .int x1, .int x2, .int x3] S qq.1 qq.2 := by
  refine K_body (Qc := QI D cy S qq.2 qq.1) (by decide) (Nat.le_of_ble_eq_true rfl) ?_
  intro p e s m below meth c A ls args E hr hlk hnm hA F hw hl
  have hx := E.1
  have hb := E.2.1
  have hl : lv_has ls 5 [(0, .ref o0), (1, .int x1), (2, .int x2), (3, .int x3)] := hl
  have hg : Gr S S := Gr.rf
  replace h : (f_X7_isKeyword o0 x1 x2 x3 S).bind some = some qq := by rw [h]; rfl
  have L3 : ∀ (o0 : Nat) (x1 : Int32) (x2 : Int32) (x3 : Int32) (n : Nat) (x4 : Int32) (S1 : PS) (o : (Int32 × PS) ⊕ (PS)), loopN (fun a => f_X7_isKeyword_b3 o0 x1 x2 x3 a.1 a.2) n (x4, S1) = some o → ∀ (H : Heap) (locs : List Loc) (ls : Array Slot), Wd D cy A s H locs S1 → Gr S S1 → tD S1 o0 7 → lv_has ls 5 [(0, .ref o0), (1, .int x1), (2, .int x2), (3, .int x3), (4, .int x4)] → (∀ (S2 : PS), o = .inr (S2) → ∀ (H : Heap) (locs : List Loc) (ls : Array Slot), Wd D cy A s H locs S2 → Gr S1 S2 → lv_has ls 5 [] → W p l e (rmK 5 163 0 0) s m args below meth c H locs 0 0 (MQ below (QI D cy S qq.2 qq.1 s.heap.size) args s 0 0 A) (F0 m 38 ls [])) → (∀ q9, o = .inl q9 → q9 = qq) → W p l e (rmK 5 163 0 0) s m args below meth c H locs 0 0 (MQ below (QI D cy S qq.2 qq.1 s.heap.size) args s 0 0 A) (F0 m 3 ls []) := by
    intro o0 x1 x2 x3 n
    induction n with
    | zero => intro x4 S1 o h; exact absurd h (by simp [loopN])
    | succ n ih =>
      intro x4 S1 o h H locs ls hw hG0 t_o0 hl hx2 hq2
      have hg : Gr S1 S1 := Gr.rf
      replace h : (f_X7_isKeyword_b3 o0 x1 x2 x3 x4 S1).bind (Sum.elim (loopN (fun a => f_X7_isKeyword_b3 o0 x1 x2 x3 a.1 a.2) n) some) = some o := h
      rw [f_X7_isKeyword_b3] at h
      refine lv_iload hx hb dX7_isKeyword_3 (lv_at hl 4 rfl) ?_
      refine lv_iload_n hx hb dX7_isKeyword_5 rfl (lv_at hl 3 rfl) ?_
      refine lv_icmp_ge (tgt := 38) hx hb dX7_isKeyword_6 (by decide) (fun c5 => ?_) (fun c5 => ?_)
      · rw [if_pos c5] at h
        obtain rfl := Option.some.inj h
        exact hx2 S1 rfl _ _ _ hw hg (lv_sub hl [] rfl)
      · rw [if_neg c5] at h
        refine va_ldcS hx hb E.2.2.2.1 F.2.2.2.2.2.1 dX7_isKeyword_9 ?_
        refine lv_iload hx hb dX7_isKeyword_11 (lv_at hl 4 rfl) ?_
        obtain ⟨q1, h_q1, h⟩ := bb h
        refine z_VIs E F hw [.int x4] (k_J0_charAt_5068e_s0 l D cy kc x4 S1 h_q1) (rS F hw (i := 0) (by decide)) mk_J0_charAt_5068e vk_J0_charAt_5068e ml_X7_82 ⟨by decide, by decide⟩ rfl hl.1 rfl (Nat.le_of_ble_eq_true rfl) dX7_isKeyword_13 ⟨Nat.zero_le _, Nat.zero_le _⟩ (fun H locs hw hG => ?_)
        have t_o0 := hG.t t_o0
        have hg := hg.tr hG
        refine lv_aload_n hx hb dX7_isKeyword_16 rfl (lv_at hl 0 rfl) ?_
        obtain ⟨b2, r_b2, h⟩ := bb h
        obtain ⟨r_b2, t_b2⟩ := rk_some r_b2
        refine g_R E F hw t_o0 cf7 fk_X7_29 dX7_isKeyword_17 rfl r_b2 ?_
        refine lv_iload_n hx hb dX7_isKeyword_20 rfl (lv_at hl 1 rfl) ?_
        refine lv_iload hx hb dX7_isKeyword_21 (lv_at hl 4 rfl) ?_
        refine lv_iadd hx hb dX7_isKeyword_23 ?_
        refine lv_iload_n hx hb dX7_isKeyword_24 rfl (lv_at hl 2 rfl) ?_
        refine lv_isub hx hb dX7_isKeyword_25 ?_
        obtain ⟨c3, h⟩ := bg h
        refine a_c E F hw t_b2 c3 dX7_isKeyword_26 ?_
        refine lv_icmp_eq (tgt := 32) hx hb dX7_isKeyword_27 (by decide) (fun c4 => ?_) (fun c4 => ?_)
        · rw [if_pos c4] at h
          refine lv_iinc (v := x4 + 1) (lv' := [(4, .int (x4 + 1)), (0, .ref o0), (1, .int x1), (2, .int x2), (3, .int x3)]) hx hb dX7_isKeyword_32 hl (k := 4) rfl rfl (by decide) rfl (fun ls hl => ?_)
          refine lv_goto (tgt := 3) hx hb dX7_isKeyword_35 (by decide) ?_
          exact ih (x4 + 1) q1.2 _ h _ _ _ hw (hG0.tr hg) t_o0 (lv_sub hl [1, 2, 3, 4, 0] rfl) (fun  S2 he H locs ls hw hG hl => hx2  S2 he H locs ls hw (hg.tr hG) hl) hq2
        · rw [if_neg c4] at h
          refine lv_iconst (v := 0) hx hb dX7_isKeyword_30 (by decide) ?_
          obtain rfl := Option.some.inj h
          obtain rfl := hq2 _ rfl
          exact r_Z E hr hlk F hA hw (hG0.tr hg) rfl dX7_isKeyword_31
  have J38 : ∀  (S3 : PS) (H : Heap) (locs : List Loc) (ls : Array Slot), (f_X7_isKeyword_38  S3).bind some = some qq → Wd D cy A s H locs S3 → Gr S S3 → lv_has ls 5 [] → W p l e (rmK 5 163 0 0) s m args below meth c H locs 0 0 (MQ below (QI D cy S qq.2 qq.1 s.heap.size) args s 0 0 A) (F0 m 38 ls []) := by
    intro  S3 H locs ls h hw hg  hl
    rw [f_X7_isKeyword_38] at h
    refine lv_iconst (v := 1) hx hb dX7_isKeyword_38 (by decide) ?_
    obtain rfl := Option.some.inj h
    exact r_Z E hr hlk F hA hw hg rfl dX7_isKeyword_39
  rw [f_X7_isKeyword] at h
  refine lv_iload_n hx hb dX7_isKeyword_0 rfl (lv_at hl 2 rfl) ?_
  refine lv_istore (lv' := [(4, .int x2), (0, .ref o0), (1, .int x1), (2, .int x2), (3, .int x3)]) hx hb dX7_isKeyword_1 hl (by decide) rfl (fun ls hl => ?_)
  obtain ⟨y6, hy6, h⟩ := bb h
  refine L3 o0 x1 x2 x3 fu x2 S y6 hy6 _ _ _ hw (hg) t_o0 (lv_sub hl [1, 2, 3, 4, 0] rfl) (fun  S2 he H locs ls hw hG hl => ?_) (fun r he => ?_)
  · subst he
    have hg := hg.tr hG
    exact J38  S2 _ _ _ h hw hg  (lv_sub hl [] rfl)
  · subst he
    exact Option.some.inj h
def f_X7_keyword_66b15 (o0 : Nat) (x1 : Int32) (x2 : Int32) (z3 : Int32) (x5 : Int32) (z6 : Int32) (S3 : PS) : Option ((Int32 × Int32 × Int32 × PS) ⊕ ((Int32 × PS) ⊕ (PS))) :=
  some (.inl (z3 + 1, (z6 + (1 : Int32)), z6 + 1, S3))
def f_X7_keyword_41b15 (o0 : Nat) (x1 : Int32) (x2 : Int32) (z3 : Int32) (z4 : Int32) (x5 : Int32) (z6 : Int32) (S3 : PS) : Option ((Int32 × Int32 × Int32 × PS) ⊕ ((Int32 × PS) ⊕ (PS))) :=
  (if (z6 - z4) = (x2 - x1) then (f_X7_isKeyword o0 x1 z4 z6 S3).bind fun q2 => (if q2.1 = 0 then f_X7_keyword_66b15 o0 x1 x2 z3 x5 z6 q2.2 else some (.inr (.inl (z3, q2.2)))) else f_X7_keyword_66b15 o0 x1 x2 z3 x5 z6 S3)
def f_X7_keyword_b15 (o0 : Nat) (x1 : Int32) (x2 : Int32) (x5 : Int32) (x3 : Int32) (x4 : Int32) (x6 : Int32) (S1 : PS) : Option ((Int32 × Int32 × Int32 × PS) ⊕ ((Int32 × PS) ⊕ (PS))) :=
  (if x5 < x6 then some (.inr (.inr (S1))) else (if x6 = x5 then f_X7_keyword_41b15 o0 x1 x2 x3 x4 x5 x6 S1 else (f_J0_charAt_5068e_s0 x6 S1).bind fun q5 => (if q5.1 = (32 : Int32) then f_X7_keyword_41b15 o0 x1 x2 x3 x4 x5 x6 q5.2 else some (.inl (x3, x4, x6 + 1, q5.2)))))
def f_X7_keyword_81  (S3 : PS) : Option (Int32 × PS) :=
  some ((18 : Int32), S3)
def f_X7_keyword (o0 : Nat) (x1 : Int32) (x2 : Int32) (S : PS) : Option (Int32 × PS) :=
  (f_J0_length_8abf5_s0  S).bind fun q1 => (loopN (fun a => f_X7_keyword_b15 o0 x1 x2 q1.1 a.1 a.2.1 a.2.2.1 a.2.2.2) fu ((0 : Int32), (0 : Int32), (0 : Int32), q1.2)).bind (Sum.elim (fun r => some r) (fun a => f_X7_keyword_81  a))
set_option maxHeartbeats 4000000 in
set_option maxRecDepth 100000 in
theorem k_X7_keyword (l : Launch) (D : va_G) (cy : Nat → ClassId) (kc : Nat → Nat) (o0 : Nat) (x1 : Int32) (x2 : Int32) (S : PS) {qq : Int32 × PS} (h : f_X7_keyword o0 x1 x2 S = some qq) (t_o0 : tD S o0 7) : KI l D cy kc yX7_keyword cX7_keyword 7 .int (rmK 6 203 0 0) [.ref o0, .int x1, .int x2] S qq.1 qq.2 := by
  refine K_body (Qc := QI D cy S qq.2 qq.1) (by decide) (Nat.le_of_ble_eq_true rfl) ?_
  intro p e s m below meth c A ls args E hr hlk hnm hA F hw hl
  have hx := E.1
  have hb := E.2.1
  have hl : lv_has ls 7 [(0, .ref o0), (1, .int x1), (2, .int x2)] := hl
  have hg : Gr S S := Gr.rf
  replace h : (f_X7_keyword o0 x1 x2 S).bind some = some qq := by rw [h]; rfl
  have L15 : ∀ (o0 : Nat) (x1 : Int32) (x2 : Int32) (x5 : Int32) (n : Nat) (x3 : Int32) (x4 : Int32) (x6 : Int32) (S1 : PS) (o : (Int32 × PS) ⊕ (PS)), loopN (fun a => f_X7_keyword_b15 o0 x1 x2 x5 a.1 a.2.1 a.2.2.1 a.2.2.2) n (x3, x4, x6, S1) = some o → ∀ (H : Heap) (locs : List Loc) (ls : Array Slot), Wd D cy A s H locs S1 → Gr S S1 → tD S1 o0 7 → lv_has ls 7 [(0, .ref o0), (1, .int x1), (2, .int x2), (3, .int x3), (4, .int x4), (5, .int x5), (6, .int x6)] → (∀ (S2 : PS), o = .inr (S2) → ∀ (H : Heap) (locs : List Loc) (ls : Array Slot), Wd D cy A s H locs S2 → Gr S1 S2 → lv_has ls 7 [] → W p l e (rmK 6 203 0 0) s m args below meth c H locs 0 0 (MQ below (QI D cy S qq.2 qq.1 s.heap.size) args s 0 0 A) (F0 m 81 ls [])) → (∀ q9, o = .inl q9 → q9 = qq) → W p l e (rmK 6 203 0 0) s m args below meth c H locs 0 0 (MQ below (QI D cy S qq.2 qq.1 s.heap.size) args s 0 0 A) (F0 m 15 ls []) := by
    intro o0 x1 x2 x5 n
    induction n with
    | zero => intro x3 x4 x6 S1 o h; exact absurd h (by simp [loopN])
    | succ n ih =>
      intro x3 x4 x6 S1 o h H locs ls hw hG0 t_o0 hl hx2 hq2
      have hg : Gr S1 S1 := Gr.rf
      replace h : (f_X7_keyword_b15 o0 x1 x2 x5 x3 x4 x6 S1).bind (Sum.elim (loopN (fun a => f_X7_keyword_b15 o0 x1 x2 x5 a.1 a.2.1 a.2.2.1 a.2.2.2) n) some) = some o := h
      have J66 : ∀ (z3 : Int32) (z6 : Int32) (S3 : PS) (H : Heap) (locs : List Loc) (ls : Array Slot), (f_X7_keyword_66b15 o0 x1 x2 z3 x5 z6 S3).bind (Sum.elim (loopN (fun a => f_X7_keyword_b15 o0 x1 x2 x5 a.1 a.2.1 a.2.2.1 a.2.2.2) n) some) = some o → Wd D cy A s H locs S3 → Gr S1 S3 → tD S3 o0 7 → lv_has ls 7 [(0, .ref o0), (1, .int x1), (2, .int x2), (3, .int z3), (5, .int x5), (6, .int z6)] → W p l e (rmK 6 203 0 0) s m args below meth c H locs 0 0 (MQ below (QI D cy S qq.2 qq.1 s.heap.size) args s 0 0 A) (F0 m 66 ls []) := by
        intro z3 z6 S3 H locs ls h hw hg t_o0 hl
        rw [f_X7_keyword_66b15] at h
        refine lv_iinc (v := z3 + 1) (lv' := [(3, .int (z3 + 1)), (0, .ref o0), (1, .int x1), (2, .int x2), (5, .int x5), (6, .int z6)]) hx hb dX7_keyword_66 hl (k := 3) rfl rfl (by decide) rfl (fun ls hl => ?_)
        refine lv_iload hx hb dX7_keyword_69 (lv_at hl 5 rfl) ?_
        refine lv_iconst (v := 1) hx hb dX7_keyword_71 (by decide) ?_
        refine lv_iadd hx hb dX7_keyword_72 ?_
        refine lv_istore (lv' := [(4, .int (z6 + (1 : Int32))), (3, .int (z3 + 1)), (0, .ref o0), (1, .int x1), (2, .int x2), (5, .int x5), (6, .int z6)]) hx hb dX7_keyword_73 hl (by decide) rfl (fun ls hl => ?_)
        refine lv_iinc (v := z6 + 1) (lv' := [(6, .int (z6 + 1)), (4, .int (z6 + (1 : Int32))), (3, .int (z3 + 1)), (0, .ref o0), (1, .int x1), (2, .int x2), (5, .int x5)]) hx hb dX7_keyword_75 hl (k := 6) rfl rfl (by decide) rfl (fun ls hl => ?_)
        refine lv_goto (tgt := 15) hx hb dX7_keyword_78 (by decide) ?_
        exact ih (z3 + 1) (z6 + (1 : Int32)) (z6 + 1) S3 _ h _ _ _ hw (hG0.tr hg) t_o0 (lv_sub hl [3, 4, 5, 2, 1, 6, 0] rfl) (fun  S2 he H locs ls hw hG hl => hx2  S2 he H locs ls hw (hg.tr hG) hl) hq2
      have J41 : ∀ (z3 : Int32) (z4 : Int32) (z6 : Int32) (S3 : PS) (H : Heap) (locs : List Loc) (ls : Array Slot), (f_X7_keyword_41b15 o0 x1 x2 z3 z4 x5 z6 S3).bind (Sum.elim (loopN (fun a => f_X7_keyword_b15 o0 x1 x2 x5 a.1 a.2.1 a.2.2.1 a.2.2.2) n) some) = some o → Wd D cy A s H locs S3 → Gr S1 S3 → tD S3 o0 7 → lv_has ls 7 [(0, .ref o0), (1, .int x1), (2, .int x2), (3, .int z3), (4, .int z4), (5, .int x5), (6, .int z6)] → W p l e (rmK 6 203 0 0) s m args below meth c H locs 0 0 (MQ below (QI D cy S qq.2 qq.1 s.heap.size) args s 0 0 A) (F0 m 41 ls []) := by
        intro z3 z4 z6 S3 H locs ls h hw hg t_o0 hl
        rw [f_X7_keyword_41b15] at h
        refine lv_iload hx hb dX7_keyword_41 (lv_at hl 6 rfl) ?_
        refine lv_iload hx hb dX7_keyword_43 (lv_at hl 4 rfl) ?_
        refine lv_isub hx hb dX7_keyword_45 ?_
        refine lv_iload_n hx hb dX7_keyword_46 rfl (lv_at hl 2 rfl) ?_
        refine lv_iload_n hx hb dX7_keyword_47 rfl (lv_at hl 1 rfl) ?_
        refine lv_isub hx hb dX7_keyword_48 ?_
        refine lv_icmp_ne (tgt := 66) hx hb dX7_keyword_49 (by decide) (fun c4 => ?_) (fun c4 => ?_)
        · rw [if_neg c4] at h
          exact J66 z3 z6 S3 _ _ _ h hw hg t_o0 (lv_sub hl [0, 1, 2, 3, 5, 6] rfl)
        · rw [if_pos c4] at h
          refine lv_aload_n hx hb dX7_keyword_52 rfl (lv_at hl 0 rfl) ?_
          refine lv_iload_n hx hb dX7_keyword_53 rfl (lv_at hl 1 rfl) ?_
          refine lv_iload hx hb dX7_keyword_54 (lv_at hl 4 rfl) ?_
          refine lv_iload hx hb dX7_keyword_56 (lv_at hl 6 rfl) ?_
          obtain ⟨q2, h_q2, h⟩ := bb h
          refine z_VI E F hw [.int x1, .int z4, .int z6] (k_X7_isKeyword l D cy kc o0 x1 z4 z6 S3 h_q2 t_o0) t_o0 cf7 mk_X7_isKeyword vk_X7_isKeyword ml_X7_86 ⟨by decide, by decide⟩ rfl hl.1 rfl (Nat.le_of_ble_eq_true rfl) dX7_keyword_58 ⟨Nat.zero_le _, Nat.zero_le _⟩ (fun H locs hw hG => ?_)
          have t_o0 := hG.t t_o0
          have hg := hg.tr hG
          refine lv_if_eq (tgt := 66) hx hb dX7_keyword_61 (by decide) (fun c3 => ?_) (fun c3 => ?_)
          · rw [if_pos c3] at h
            exact J66 z3 z6 q2.2 _ _ _ h hw hg t_o0 (lv_sub hl [0, 1, 2, 3, 5, 6] rfl)
          · rw [if_neg c3] at h
            refine lv_iload_n hx hb dX7_keyword_64 rfl (lv_at hl 3 rfl) ?_
            obtain rfl := Option.some.inj h
            obtain rfl := hq2 _ rfl
            exact r_I E hr hlk F hA hw (hG0.tr hg) dX7_keyword_65
      rw [f_X7_keyword_b15] at h
      refine lv_iload hx hb dX7_keyword_15 (lv_at hl 6 rfl) ?_
      refine lv_iload hx hb dX7_keyword_17 (lv_at hl 5 rfl) ?_
      refine lv_icmp_gt (tgt := 81) hx hb dX7_keyword_19 (by decide) (fun c8 => ?_) (fun c8 => ?_)
      · rw [if_pos c8] at h
        obtain rfl := Option.some.inj h
        exact hx2 S1 rfl _ _ _ hw hg (lv_sub hl [] rfl)
      · rw [if_neg c8] at h
        refine lv_iload hx hb dX7_keyword_22 (lv_at hl 6 rfl) ?_
        refine lv_iload hx hb dX7_keyword_24 (lv_at hl 5 rfl) ?_
        refine lv_icmp_eq (tgt := 41) hx hb dX7_keyword_26 (by decide) (fun c7 => ?_) (fun c7 => ?_)
        · rw [if_pos c7] at h
          exact J41 x3 x4 x6 S1 _ _ _ h hw hg t_o0 (lv_sub hl [0, 1, 2, 3, 4, 5, 6] rfl)
        · rw [if_neg c7] at h
          refine va_ldcS hx hb E.2.2.2.1 F.2.2.2.2.2.1 dX7_keyword_29 ?_
          refine lv_iload hx hb dX7_keyword_31 (lv_at hl 6 rfl) ?_
          obtain ⟨q5, h_q5, h⟩ := bb h
          refine z_VIs E F hw [.int x6] (k_J0_charAt_5068e_s0 l D cy kc x6 S1 h_q5) (rS F hw (i := 0) (by decide)) mk_J0_charAt_5068e vk_J0_charAt_5068e ml_X7_82 ⟨by decide, by decide⟩ rfl hl.1 rfl (Nat.le_of_ble_eq_true rfl) dX7_keyword_33 ⟨Nat.zero_le _, Nat.zero_le _⟩ (fun H locs hw hG => ?_)
          have t_o0 := hG.t t_o0
          have hg := hg.tr hG
          refine lv_bipush (v := 32) hx hb dX7_keyword_36 (by decide) ?_
          refine lv_icmp_ne (tgt := 75) hx hb dX7_keyword_38 (by decide) (fun c6 => ?_) (fun c6 => ?_)
          · rw [if_neg c6] at h
            refine lv_iinc (v := x6 + 1) (lv' := [(6, .int (x6 + 1)), (0, .ref o0), (1, .int x1), (2, .int x2), (3, .int x3), (4, .int x4), (5, .int x5)]) hx hb dX7_keyword_75 hl (k := 6) rfl rfl (by decide) rfl (fun ls hl => ?_)
            refine lv_goto (tgt := 15) hx hb dX7_keyword_78 (by decide) ?_
            exact ih x3 x4 (x6 + 1) q5.2 _ h _ _ _ hw (hG0.tr hg) t_o0 (lv_sub hl [1, 2, 3, 4, 5, 6, 0] rfl) (fun  S2 he H locs ls hw hG hl => hx2  S2 he H locs ls hw (hg.tr hG) hl) hq2
          · rw [if_pos c6] at h
            exact J41 x3 x4 x6 q5.2 _ _ _ h hw hg t_o0 (lv_sub hl [0, 1, 2, 3, 4, 5, 6] rfl)
  have J81 : ∀  (S3 : PS) (H : Heap) (locs : List Loc) (ls : Array Slot), (f_X7_keyword_81  S3).bind some = some qq → Wd D cy A s H locs S3 → Gr S S3 → lv_has ls 7 [] → W p l e (rmK 6 203 0 0) s m args below meth c H locs 0 0 (MQ below (QI D cy S qq.2 qq.1 s.heap.size) args s 0 0 A) (F0 m 81 ls []) := by
    intro  S3 H locs ls h hw hg  hl
    rw [f_X7_keyword_81] at h
    refine lv_bipush (v := 18) hx hb dX7_keyword_81 (by decide) ?_
    obtain rfl := Option.some.inj h
    exact r_I E hr hlk F hA hw hg dX7_keyword_83
  rw [f_X7_keyword] at h
  refine lv_iconst (v := 0) hx hb dX7_keyword_0 (by decide) ?_
  refine lv_istore_n (lv' := [(3, .int (0 : Int32)), (0, .ref o0), (1, .int x1), (2, .int x2)]) hx hb dX7_keyword_1 rfl hl (by decide) rfl (fun ls hl => ?_)
  refine lv_iconst (v := 0) hx hb dX7_keyword_2 (by decide) ?_
  refine lv_istore (lv' := [(4, .int (0 : Int32)), (3, .int (0 : Int32)), (0, .ref o0), (1, .int x1), (2, .int x2)]) hx hb dX7_keyword_3 hl (by decide) rfl (fun ls hl => ?_)
  refine va_ldcS hx hb E.2.2.2.1 F.2.2.2.2.2.1 dX7_keyword_5 ?_
  obtain ⟨q1, h_q1, h⟩ := bb h
  refine z_VIs E F hw [] (k_J0_length_8abf5_s0 l D cy kc  S h_q1) (rS F hw (i := 0) (by decide)) mk_J0_length_8abf5 vk_J0_length_8abf5 ml_X7_79 ⟨by decide, by decide⟩ rfl hl.1 rfl (Nat.le_of_ble_eq_true rfl) dX7_keyword_7 ⟨Nat.zero_le _, Nat.zero_le _⟩ (fun H locs hw hG => ?_)
  have t_o0 := hG.t t_o0
  have hg := hg.tr hG
  refine lv_istore (lv' := [(5, .int q1.1), (4, .int (0 : Int32)), (3, .int (0 : Int32)), (0, .ref o0), (1, .int x1), (2, .int x2)]) hx hb dX7_keyword_10 hl (by decide) rfl (fun ls hl => ?_)
  refine lv_iconst (v := 0) hx hb dX7_keyword_12 (by decide) ?_
  refine lv_istore (lv' := [(6, .int (0 : Int32)), (5, .int q1.1), (4, .int (0 : Int32)), (3, .int (0 : Int32)), (0, .ref o0), (1, .int x1), (2, .int x2)]) hx hb dX7_keyword_13 hl (by decide) rfl (fun ls hl => ?_)
  obtain ⟨y9, hy9, h⟩ := bb h
  refine L15 o0 x1 x2 q1.1 fu (0 : Int32) (0 : Int32) (0 : Int32) q1.2 y9 hy9 _ _ _ hw (hg) t_o0 (lv_sub hl [4, 5, 6, 3, 2, 1, 0] rfl) (fun  S2 he H locs ls hw hG hl => ?_) (fun r he => ?_)
  · subst he
    have hg := hg.tr hG
    exact J81  S2 _ _ _ h hw hg  (lv_sub hl [] rfl)
  · subst he
    exact Option.some.inj h
def f_X7_readWord_b7 (o0 : Nat) (x1 : Int32) (x2 : Int32) (x3 : Int64) (x5 : Int32) (S1 : PS) : Option ((Int32 × Int64 × Int32 × PS) ⊕ ((Int32 × PS) ⊕ (Int32 × Int64 × PS))) :=
  (if (sI S1 o0 1) ≤ x5 then some (.inr (.inr (x2, x3, S1))) else (rk S1 (sR S1 o0 0) 12).bind fun b1 => if ib x5 (sN S1 b1) = true then (f_X7_isLetter (sI S1 b1 (Int32.toNatClampNeg x5)) S1).bind fun q3 => (if q3.1 = 0 then some (.inr (.inr (x2, x3, q3.2))) else (rk q3.2 (sR q3.2 o0 0) 12).bind fun b4 => if ib x5 (sN q3.2 b4) = true then some (.inl ((x5 + (1 : Int32)), ((x3 * (32 : Int64)) + (Int32.toInt64 (((sI q3.2 b4 (Int32.toNatClampNeg x5)) - (97 : Int32)) + (1 : Int32)))), x5 + 1, q3.2)) else none) else none)
def f_X7_readWord_80 (x1 : Int32) (z2 : Int32) (z3 : Int64) (w0 : Nat) (y1 : Int32) (S3 : PS) : Option (Int32 × PS) :=
  (f_X7_add w0 y1 x1 z3 S3).bind fun q10 => some (z2, q10.2)
def f_X7_readWord_60 (o0 : Nat) (x1 : Int32) (z2 : Int32) (z3 : Int64) (S3 : PS) : Option (Int32 × PS) :=
  (if (z2 - x1) ≤ (8 : Int32) then (f_X7_keyword o0 x1 z2 S3).bind fun q9 => f_X7_readWord_80 x1 z2 z3 o0 q9.1 q9.2 else f_X7_readWord_80 x1 z2 z3 o0 (29 : Int32) S3)
def f_X7_readWord (o0 : Nat) (x1 : Int32) (S : PS) : Option (Int32 × PS) :=
  (loopN (fun a => f_X7_readWord_b7 o0 x1 a.1 a.2.1 a.2.2.1 a.2.2.2) fu (x1, (0 : Int64), x1, S)).bind (Sum.elim (fun r => some r) (fun a => f_X7_readWord_60 o0 x1 a.1 a.2.1 a.2.2))
set_option maxHeartbeats 4000000 in
set_option maxRecDepth 100000 in
theorem k_X7_readWord (l : Launch) (D : va_G) (cy : Nat → ClassId) (kc : Nat → Nat) (o0 : Nat) (x1 : Int32) (S : PS) {qq : Int32 × PS} (h : f_X7_readWord o0 x1 S = some qq) (t_o0 : tD S o0 7) : KI l D cy kc yX7_readWord cX7_readWord 6 .int (rmK 7 245 0 0) [.ref o0, .int x1] S qq.1 qq.2 := by
  refine K_body (Qc := QI D cy S qq.2 qq.1) (by decide) (Nat.le_of_ble_eq_true rfl) ?_
  intro p e s m below meth c A ls args E hr hlk hnm hA F hw hl
  have hx := E.1
  have hb := E.2.1
  have hl : lv_has ls 6 [(0, .ref o0), (1, .int x1)] := hl
  have hg : Gr S S := Gr.rf
  replace h : (f_X7_readWord o0 x1 S).bind some = some qq := by rw [h]; rfl
  have L7 : ∀ (o0 : Nat) (x1 : Int32) (n : Nat) (x2 : Int32) (x3 : Int64) (x5 : Int32) (S1 : PS) (o : (Int32 × PS) ⊕ (Int32 × Int64 × PS)), loopN (fun a => f_X7_readWord_b7 o0 x1 a.1 a.2.1 a.2.2.1 a.2.2.2) n (x2, x3, x5, S1) = some o → ∀ (H : Heap) (locs : List Loc) (ls : Array Slot), Wd D cy A s H locs S1 → Gr S S1 → tD S1 o0 7 → lv_has ls 6 [(0, .ref o0), (1, .int x1), (2, .int x2), (3, .long x3), (5, .int x5)] → (∀ (e0 : Int32) (e1 : Int64) (S2 : PS), o = .inr (e0, e1, S2) → ∀ (H : Heap) (locs : List Loc) (ls : Array Slot), Wd D cy A s H locs S2 → Gr S1 S2 → lv_has ls 6 [(0, .ref o0), (1, .int x1), (2, .int e0), (3, .long e1)] → W p l e (rmK 7 245 0 0) s m args below meth c H locs 0 0 (MQ below (QI D cy S qq.2 qq.1 s.heap.size) args s 0 0 A) (F0 m 60 ls [])) → (∀ q9, o = .inl q9 → q9 = qq) → W p l e (rmK 7 245 0 0) s m args below meth c H locs 0 0 (MQ below (QI D cy S qq.2 qq.1 s.heap.size) args s 0 0 A) (F0 m 7 ls []) := by
    intro o0 x1 n
    induction n with
    | zero => intro x2 x3 x5 S1 o h; exact absurd h (by simp [loopN])
    | succ n ih =>
      intro x2 x3 x5 S1 o h H locs ls hw hG0 t_o0 hl hx2 hq2
      have hg : Gr S1 S1 := Gr.rf
      replace h : (f_X7_readWord_b7 o0 x1 x2 x3 x5 S1).bind (Sum.elim (loopN (fun a => f_X7_readWord_b7 o0 x1 a.1 a.2.1 a.2.2.1 a.2.2.2) n) some) = some o := h
      rw [f_X7_readWord_b7] at h
      refine lv_iload hx hb dX7_readWord_7 (lv_at hl 4 rfl) ?_
      refine lv_aload_n hx hb dX7_readWord_9 rfl (lv_at hl 0 rfl) ?_
      refine g_f E F hw t_o0 cf7 fk_X7_9 dX7_readWord_10 rfl ?_
      refine lv_icmp_ge (tgt := 60) hx hb dX7_readWord_13 (by decide) (fun c7 => ?_) (fun c7 => ?_)
      · rw [if_pos c7] at h
        obtain rfl := Option.some.inj h
        exact hx2 x2 x3 S1 rfl _ _ _ hw hg (lv_sub hl [0, 1, 2, 3] rfl)
      · rw [if_neg c7] at h
        refine lv_aload_n hx hb dX7_readWord_16 rfl (lv_at hl 0 rfl) ?_
        obtain ⟨b1, r_b1, h⟩ := bb h
        obtain ⟨r_b1, t_b1⟩ := rk_some r_b1
        refine g_R E F hw t_o0 cf7 fk_X7_29 dX7_readWord_17 rfl r_b1 ?_
        refine lv_iload hx hb dX7_readWord_20 (lv_at hl 4 rfl) ?_
        obtain ⟨c2, h⟩ := bg h
        refine a_c E F hw t_b1 c2 dX7_readWord_22 ?_
        obtain ⟨q3, h_q3, h⟩ := bb h
        refine z_SI E F hw [.int (sI S1 b1 (Int32.toNatClampNeg x5))] (k_X7_isLetter l D cy kc (sI S1 b1 (Int32.toNatClampNeg x5)) S1 h_q3) mk_X7_isLetter sk_X7_isLetter ml_X7_51 ⟨by decide, by decide⟩ rfl hl.1 rfl (Nat.le_of_ble_eq_true rfl) dX7_readWord_23 ⟨Nat.zero_le _, Nat.zero_le _⟩ (fun H locs hw hG => ?_)
        have t_o0 := hG.t t_o0
        have hg := hg.tr hG
        refine lv_if_eq (tgt := 60) hx hb dX7_readWord_26 (by decide) (fun c6 => ?_) (fun c6 => ?_)
        · rw [if_pos c6] at h
          obtain rfl := Option.some.inj h
          exact hx2 x2 x3 q3.2 rfl _ _ _ hw hg (lv_sub hl [0, 1, 2, 3] rfl)
        · rw [if_neg c6] at h
          refine lv_iload hx hb dX7_readWord_29 (lv_at hl 4 rfl) ?_
          refine lv_iconst (v := 1) hx hb dX7_readWord_31 (by decide) ?_
          refine lv_iadd hx hb dX7_readWord_32 ?_
          refine lv_istore_n (lv' := [(2, .int (x5 + (1 : Int32))), (0, .ref o0), (1, .int x1), (3, .long x3), (5, .int x5)]) hx hb dX7_readWord_33 rfl hl (by decide) rfl (fun ls hl => ?_)
          refine lv_lload_n hx hb dX7_readWord_34 rfl (lv_at hl 3 rfl) ?_
          refine lv_ldc2 hx hb E.2.2.2.1 (E.2.2.2.2 _ kl_X7_70) dX7_readWord_35 ?_
          refine lv_lmul hx hb dX7_readWord_38 ?_
          refine lv_aload_n hx hb dX7_readWord_39 rfl (lv_at hl 1 rfl) ?_
          obtain ⟨b4, r_b4, h⟩ := bb h
          obtain ⟨r_b4, t_b4⟩ := rk_some r_b4
          refine g_R E F hw t_o0 cf7 fk_X7_29 dX7_readWord_40 rfl r_b4 ?_
          refine lv_iload hx hb dX7_readWord_43 (lv_at hl 4 rfl) ?_
          obtain ⟨c5, h⟩ := bg h
          refine a_c E F hw t_b4 c5 dX7_readWord_45 ?_
          refine lv_bipush (v := 97) hx hb dX7_readWord_46 (by decide) ?_
          refine lv_isub hx hb dX7_readWord_48 ?_
          refine lv_iconst (v := 1) hx hb dX7_readWord_49 (by decide) ?_
          refine lv_iadd hx hb dX7_readWord_50 ?_
          refine lv_i2l hx hb dX7_readWord_51 rfl ?_
          refine lv_ladd hx hb dX7_readWord_52 ?_
          refine lv_lstore_n (lv' := [(3, .long ((x3 * (32 : Int64)) + (Int32.toInt64 (((sI q3.2 b4 (Int32.toNatClampNeg x5)) - (97 : Int32)) + (1 : Int32))))), (2, .int (x5 + (1 : Int32))), (0, .ref o0), (1, .int x1), (5, .int x5)]) hx hb dX7_readWord_53 rfl hl (by decide) rfl (fun ls hl => ?_)
          refine lv_iinc (v := x5 + 1) (lv' := [(5, .int (x5 + 1)), (3, .long ((x3 * (32 : Int64)) + (Int32.toInt64 (((sI q3.2 b4 (Int32.toNatClampNeg x5)) - (97 : Int32)) + (1 : Int32))))), (2, .int (x5 + (1 : Int32))), (0, .ref o0), (1, .int x1)]) hx hb dX7_readWord_54 hl (k := 4) rfl rfl (by decide) rfl (fun ls hl => ?_)
          refine lv_goto (tgt := 7) hx hb dX7_readWord_57 (by decide) ?_
          exact ih (x5 + (1 : Int32)) ((x3 * (32 : Int64)) + (Int32.toInt64 (((sI q3.2 b4 (Int32.toNatClampNeg x5)) - (97 : Int32)) + (1 : Int32)))) (x5 + 1) q3.2 _ h _ _ _ hw (hG0.tr hg) t_o0 (lv_sub hl [3, 4, 2, 1, 0] rfl) (fun e0 e1 S2 he H locs ls hw hG hl => hx2 e0 e1 S2 he H locs ls hw (hg.tr hG) hl) hq2
  have J80 : ∀ (z2 : Int32) (z3 : Int64) (w0 : Nat) (y1 : Int32) (S3 : PS) (H : Heap) (locs : List Loc) (ls : Array Slot), (f_X7_readWord_80 x1 z2 z3 w0 y1 S3).bind some = some qq → Wd D cy A s H locs S3 → Gr S S3 → tD S3 w0 7 → lv_has ls 6 [(1, .int x1), (2, .int z2), (3, .long z3)] → W p l e (rmK 7 245 0 0) s m args below meth c H locs 0 0 (MQ below (QI D cy S qq.2 qq.1 s.heap.size) args s 0 0 A) (F0 m 80 ls [.int y1, .ref w0]) := by
    intro z2 z3 w0 y1 S3 H locs ls h hw hg t_w0 hl
    rw [f_X7_readWord_80] at h
    refine lv_iload_n hx hb dX7_readWord_80 rfl (lv_at hl 0 rfl) ?_
    refine lv_lload_n hx hb dX7_readWord_81 rfl (lv_at hl 2 rfl) ?_
    obtain ⟨q10, h_q10, h⟩ := bb h
    refine z_VV E F hw [.int y1, .int x1, .long z3] (k_X7_add l D cy kc w0 y1 x1 z3 S3 h_q10 t_w0) t_w0 cf7 mk_X7_add vk_X7_add ml_X7_47 ⟨by decide, by decide⟩ rfl hl.1 rfl (Nat.le_of_ble_eq_true rfl) dX7_readWord_82 ⟨Nat.zero_le _, Nat.zero_le _⟩ (fun H locs hw hG => ?_)
    have hg := hg.tr hG
    refine lv_iload_n hx hb dX7_readWord_85 rfl (lv_at hl 1 rfl) ?_
    obtain rfl := Option.some.inj h
    exact r_I E hr hlk F hA hw hg dX7_readWord_86
  have J60 : ∀ (z2 : Int32) (z3 : Int64) (S3 : PS) (H : Heap) (locs : List Loc) (ls : Array Slot), (f_X7_readWord_60 o0 x1 z2 z3 S3).bind some = some qq → Wd D cy A s H locs S3 → Gr S S3 → tD S3 o0 7 → lv_has ls 6 [(0, .ref o0), (1, .int x1), (2, .int z2), (3, .long z3)] → W p l e (rmK 7 245 0 0) s m args below meth c H locs 0 0 (MQ below (QI D cy S qq.2 qq.1 s.heap.size) args s 0 0 A) (F0 m 60 ls []) := by
    intro z2 z3 S3 H locs ls h hw hg t_o0 hl
    rw [f_X7_readWord_60] at h
    refine lv_aload_n hx hb dX7_readWord_60 rfl (lv_at hl 0 rfl) ?_
    refine lv_iload_n hx hb dX7_readWord_61 rfl (lv_at hl 2 rfl) ?_
    refine lv_iload_n hx hb dX7_readWord_62 rfl (lv_at hl 1 rfl) ?_
    refine lv_isub hx hb dX7_readWord_63 ?_
    refine lv_bipush (v := 8) hx hb dX7_readWord_64 (by decide) ?_
    refine lv_icmp_le (tgt := 74) hx hb dX7_readWord_66 (by decide) (fun c11 => ?_) (fun c11 => ?_)
    · rw [if_pos c11] at h
      refine lv_aload_n hx hb dX7_readWord_74 rfl (lv_at hl 0 rfl) ?_
      refine lv_iload_n hx hb dX7_readWord_75 rfl (lv_at hl 1 rfl) ?_
      refine lv_iload_n hx hb dX7_readWord_76 rfl (lv_at hl 2 rfl) ?_
      obtain ⟨q9, h_q9, h⟩ := bb h
      refine z_VI E F hw [.int x1, .int z2] (k_X7_keyword l D cy kc o0 x1 z2 S3 h_q9 t_o0) t_o0 cf7 mk_X7_keyword vk_X7_keyword ml_X7_72 ⟨by decide, by decide⟩ rfl hl.1 rfl (Nat.le_of_ble_eq_true rfl) dX7_readWord_77 ⟨Nat.zero_le _, Nat.zero_le _⟩ (fun H locs hw hG => ?_)
      have t_o0 := hG.t t_o0
      have hg := hg.tr hG
      exact J80 z2 z3 o0 q9.1 q9.2 _ _ _ h hw hg t_o0 (lv_sub hl [1, 2, 3] rfl)
    · rw [if_neg c11] at h
      refine lv_bipush (v := 29) hx hb dX7_readWord_69 (by decide) ?_
      refine lv_goto (tgt := 80) hx hb dX7_readWord_71 (by decide) ?_
      exact J80 z2 z3 o0 (29 : Int32) S3 _ _ _ h hw hg t_o0 (lv_sub hl [1, 2, 3] rfl)
  rw [f_X7_readWord] at h
  refine lv_iload_n hx hb dX7_readWord_0 rfl (lv_at hl 1 rfl) ?_
  refine lv_istore_n (lv' := [(2, .int x1), (0, .ref o0), (1, .int x1)]) hx hb dX7_readWord_1 rfl hl (by decide) rfl (fun ls hl => ?_)
  refine lv_lconst (v := 0) hx hb dX7_readWord_2 (by decide) ?_
  refine lv_lstore_n (lv' := [(3, .long (0 : Int64)), (2, .int x1), (0, .ref o0), (1, .int x1)]) hx hb dX7_readWord_3 rfl hl (by decide) rfl (fun ls hl => ?_)
  refine lv_iload_n hx hb dX7_readWord_4 rfl (lv_at hl 3 rfl) ?_
  refine lv_istore (lv' := [(5, .int x1), (3, .long (0 : Int64)), (2, .int x1), (0, .ref o0), (1, .int x1)]) hx hb dX7_readWord_5 hl (by decide) rfl (fun ls hl => ?_)
  obtain ⟨y8, hy8, h⟩ := bb h
  refine L7 o0 x1 fu x1 (0 : Int64) x1 S y8 hy8 _ _ _ hw (hg) t_o0 (lv_sub hl [3, 4, 2, 1, 0] rfl) (fun e0 e1 S2 he H locs ls hw hG hl => ?_) (fun r he => ?_)
  · subst he
    have t_o0 := hG.t t_o0
    have hg := hg.tr hG
    exact J60 e0 e1 S2 _ _ _ h hw hg t_o0 (lv_sub hl [0, 1, 2, 3] rfl)
  · subst he
    exact Option.some.inj h
def f_X7_readToken_62 (x1 : Int32) (w0 : Nat) (y1 : Int32) (S3 : PS) : Option (Int32 × PS) :=
  (f_X7_add w0 y1 x1 (0 : Int64) S3).bind fun q10 => some ((x1 + (1 : Int32)), q10.2)
def f_X7_readToken (o0 : Nat) (x1 : Int32) (S : PS) : Option (Int32 × PS) :=
  (rk S (sR S o0 0) 12).bind fun b1 => if ib x1 (sN S b1) = true then (f_X7_isLetter (sI S b1 (Int32.toNatClampNeg x1)) S).bind fun q3 => (if q3.1 = 0 then (rk q3.2 (sR q3.2 o0 0) 12).bind fun b4 => if ib x1 (sN q3.2 b4) = true then (f_X7_isDigit (sI q3.2 b4 (Int32.toNatClampNeg x1)) q3.2).bind fun q6 => (if q6.1 = 0 then (rk q6.2 (sR q6.2 o0 0) 12).bind fun b7 => if ib x1 (sN q6.2 b7) = true then (f_J0_indexOf_0f7a4_s1 (sI q6.2 b7 (Int32.toNatClampNeg x1)) q6.2).bind fun q9 => (if 0 ≤ q9.1 then f_X7_readToken_62 x1 o0 ((20 : Int32) + q9.1) q9.2 else f_X7_readToken_62 x1 o0 (29 : Int32) q9.2) else none else (f_X7_readNumber o0 x1 q6.2).bind fun q12 => some (q12.1, q12.2)) else none else (f_X7_readWord o0 x1 q3.2).bind fun q14 => some (q14.1, q14.2)) else none
set_option maxHeartbeats 4000000 in
set_option maxRecDepth 100000 in
theorem k_X7_readToken (l : Launch) (D : va_G) (cy : Nat → ClassId) (kc : Nat → Nat) (o0 : Nat) (x1 : Int32) (S : PS) {qq : Int32 × PS} (h : f_X7_readToken o0 x1 S = some qq) (t_o0 : tD S o0 7) : KI l D cy kc yX7_readToken cX7_readToken 3 .int (rmK 8 286 0 0) [.ref o0, .int x1] S qq.1 qq.2 := by
  refine K_body (Qc := QI D cy S qq.2 qq.1) (by decide) (Nat.le_of_ble_eq_true rfl) ?_
  intro p e s m below meth c A ls args E hr hlk hnm hA F hw hl
  have hx := E.1
  have hb := E.2.1
  have hl : lv_has ls 3 [(0, .ref o0), (1, .int x1)] := hl
  have hg : Gr S S := Gr.rf
  replace h : (f_X7_readToken o0 x1 S).bind some = some qq := by rw [h]; rfl
  have J62 : ∀ (w0 : Nat) (y1 : Int32) (S3 : PS) (H : Heap) (locs : List Loc) (ls : Array Slot), (f_X7_readToken_62 x1 w0 y1 S3).bind some = some qq → Wd D cy A s H locs S3 → Gr S S3 → tD S3 w0 7 → lv_has ls 3 [(1, .int x1)] → W p l e (rmK 8 286 0 0) s m args below meth c H locs 0 0 (MQ below (QI D cy S qq.2 qq.1 s.heap.size) args s 0 0 A) (F0 m 62 ls [.int y1, .ref w0]) := by
    intro w0 y1 S3 H locs ls h hw hg t_w0 hl
    rw [f_X7_readToken_62] at h
    refine lv_iload_n hx hb dX7_readToken_62 rfl (lv_at hl 0 rfl) ?_
    refine lv_lconst (v := 0) hx hb dX7_readToken_63 (by decide) ?_
    obtain ⟨q10, h_q10, h⟩ := bb h
    refine z_VV E F hw [.int y1, .int x1, .long (0 : Int64)] (k_X7_add l D cy kc w0 y1 x1 (0 : Int64) S3 h_q10 t_w0) t_w0 cf7 mk_X7_add vk_X7_add ml_X7_47 ⟨by decide, by decide⟩ rfl hl.1 rfl (Nat.le_of_ble_eq_true rfl) dX7_readToken_64 ⟨Nat.zero_le _, Nat.zero_le _⟩ (fun H locs hw hG => ?_)
    have hg := hg.tr hG
    refine lv_iload_n hx hb dX7_readToken_67 rfl (lv_at hl 0 rfl) ?_
    refine lv_iconst (v := 1) hx hb dX7_readToken_68 (by decide) ?_
    refine lv_iadd hx hb dX7_readToken_69 ?_
    obtain rfl := Option.some.inj h
    exact r_I E hr hlk F hA hw hg dX7_readToken_70
  rw [f_X7_readToken] at h
  refine lv_aload_n hx hb dX7_readToken_0 rfl (lv_at hl 0 rfl) ?_
  obtain ⟨b1, r_b1, h⟩ := bb h
  obtain ⟨r_b1, t_b1⟩ := rk_some r_b1
  refine g_R E F hw t_o0 cf7 fk_X7_29 dX7_readToken_1 rfl r_b1 ?_
  refine lv_iload_n hx hb dX7_readToken_4 rfl (lv_at hl 1 rfl) ?_
  obtain ⟨c2, h⟩ := bg h
  refine a_c E F hw t_b1 c2 dX7_readToken_5 ?_
  obtain ⟨q3, h_q3, h⟩ := bb h
  refine z_SI E F hw [.int (sI S b1 (Int32.toNatClampNeg x1))] (k_X7_isLetter l D cy kc (sI S b1 (Int32.toNatClampNeg x1)) S h_q3) mk_X7_isLetter sk_X7_isLetter ml_X7_51 ⟨by decide, by decide⟩ rfl hl.1 rfl (Nat.le_of_ble_eq_true rfl) dX7_readToken_6 ⟨Nat.zero_le _, Nat.zero_le _⟩ (fun H locs hw hG => ?_)
  have t_o0 := hG.t t_o0
  have hg := hg.tr hG
  refine lv_if_eq (tgt := 18) hx hb dX7_readToken_9 (by decide) (fun c15 => ?_) (fun c15 => ?_)
  · rw [if_pos c15] at h
    refine lv_aload_n hx hb dX7_readToken_18 rfl (lv_at hl 0 rfl) ?_
    obtain ⟨b4, r_b4, h⟩ := bb h
    obtain ⟨r_b4, t_b4⟩ := rk_some r_b4
    refine g_R E F hw t_o0 cf7 fk_X7_29 dX7_readToken_19 rfl r_b4 ?_
    refine lv_iload_n hx hb dX7_readToken_22 rfl (lv_at hl 1 rfl) ?_
    obtain ⟨c5, h⟩ := bg h
    refine a_c E F hw t_b4 c5 dX7_readToken_23 ?_
    obtain ⟨q6, h_q6, h⟩ := bb h
    refine z_SI E F hw [.int (sI q3.2 b4 (Int32.toNatClampNeg x1))] (k_X7_isDigit l D cy kc (sI q3.2 b4 (Int32.toNatClampNeg x1)) q3.2 h_q6) mk_X7_isDigit sk_X7_isDigit ml_X7_57 ⟨by decide, by decide⟩ rfl hl.1 rfl (Nat.le_of_ble_eq_true rfl) dX7_readToken_24 ⟨Nat.zero_le _, Nat.zero_le _⟩ (fun H locs hw hG => ?_)
    have t_o0 := hG.t t_o0
    have hg := hg.tr hG
    refine lv_if_eq (tgt := 36) hx hb dX7_readToken_27 (by decide) (fun c13 => ?_) (fun c13 => ?_)
    · rw [if_pos c13] at h
      refine va_ldcS hx hb E.2.2.2.1 F.2.2.2.2.2.2.1 dX7_readToken_36 ?_
      refine lv_aload_n hx hb dX7_readToken_38 rfl (lv_at hl 0 rfl) ?_
      obtain ⟨b7, r_b7, h⟩ := bb h
      obtain ⟨r_b7, t_b7⟩ := rk_some r_b7
      refine g_R E F hw t_o0 cf7 fk_X7_29 dX7_readToken_39 rfl r_b7 ?_
      refine lv_iload_n hx hb dX7_readToken_42 rfl (lv_at hl 1 rfl) ?_
      obtain ⟨c8, h⟩ := bg h
      refine a_c E F hw t_b7 c8 dX7_readToken_43 ?_
      obtain ⟨q9, h_q9, h⟩ := bb h
      refine z_VIs E F hw [.int (sI q6.2 b7 (Int32.toNatClampNeg x1))] (k_J0_indexOf_0f7a4_s1 l D cy kc (sI q6.2 b7 (Int32.toNatClampNeg x1)) q6.2 h_q9) (rS F hw (i := 1) (by decide)) mk_J0_indexOf_0f7a4 vk_J0_indexOf_0f7a4 ml_X7_65 ⟨by decide, by decide⟩ rfl hl.1 rfl (Nat.le_of_ble_eq_true rfl) dX7_readToken_44 ⟨Nat.zero_le _, Nat.zero_le _⟩ (fun H locs hw hG => ?_)
      have t_o0 := hG.t t_o0
      have hg := hg.tr hG
      refine lv_istore_n (lv' := [(2, .int q9.1), (0, .ref o0), (1, .int x1)]) hx hb dX7_readToken_47 rfl hl (by decide) rfl (fun ls hl => ?_)
      refine lv_aload_n hx hb dX7_readToken_48 rfl (lv_at hl 1 rfl) ?_
      refine lv_iload_n hx hb dX7_readToken_49 rfl (lv_at hl 0 rfl) ?_
      refine lv_if_ge (tgt := 58) hx hb dX7_readToken_50 (by decide) (fun c11 => ?_) (fun c11 => ?_)
      · rw [if_pos c11] at h
        refine lv_bipush (v := 20) hx hb dX7_readToken_58 (by decide) ?_
        refine lv_iload_n hx hb dX7_readToken_60 rfl (lv_at hl 0 rfl) ?_
        refine lv_iadd hx hb dX7_readToken_61 ?_
        exact J62 o0 ((20 : Int32) + q9.1) q9.2 _ _ _ h hw hg t_o0 (lv_sub hl [2] rfl)
      · rw [if_neg c11] at h
        refine lv_bipush (v := 29) hx hb dX7_readToken_53 (by decide) ?_
        refine lv_goto (tgt := 62) hx hb dX7_readToken_55 (by decide) ?_
        exact J62 o0 (29 : Int32) q9.2 _ _ _ h hw hg t_o0 (lv_sub hl [2] rfl)
    · rw [if_neg c13] at h
      refine lv_aload_n hx hb dX7_readToken_30 rfl (lv_at hl 0 rfl) ?_
      refine lv_iload_n hx hb dX7_readToken_31 rfl (lv_at hl 1 rfl) ?_
      obtain ⟨q12, h_q12, h⟩ := bb h
      refine z_VI E F hw [.int x1] (k_X7_readNumber l D cy kc o0 x1 q6.2 h_q12 t_o0) t_o0 cf7 mk_X7_readNumber vk_X7_readNumber ml_X7_60 ⟨by decide, by decide⟩ rfl hl.1 rfl (Nat.le_of_ble_eq_true rfl) dX7_readToken_32 ⟨Nat.zero_le _, Nat.zero_le _⟩ (fun H locs hw hG => ?_)
      have t_o0 := hG.t t_o0
      have hg := hg.tr hG
      obtain rfl := Option.some.inj h
      exact r_I E hr hlk F hA hw hg dX7_readToken_35
  · rw [if_neg c15] at h
    refine lv_aload_n hx hb dX7_readToken_12 rfl (lv_at hl 0 rfl) ?_
    refine lv_iload_n hx hb dX7_readToken_13 rfl (lv_at hl 1 rfl) ?_
    obtain ⟨q14, h_q14, h⟩ := bb h
    refine z_VI E F hw [.int x1] (k_X7_readWord l D cy kc o0 x1 q3.2 h_q14 t_o0) t_o0 cf7 mk_X7_readWord vk_X7_readWord ml_X7_54 ⟨by decide, by decide⟩ rfl hl.1 rfl (Nat.le_of_ble_eq_true rfl) dX7_readToken_14 ⟨Nat.zero_le _, Nat.zero_le _⟩ (fun H locs hw hG => ?_)
    have t_o0 := hG.t t_o0
    have hg := hg.tr hG
    obtain rfl := Option.some.inj h
    exact r_I E hr hlk F hA hw hg dX7_readToken_17
def f_X7_split_b22 (o0 : Nat) (x2 : Int32) (x3 : Int32) (S1 : PS) : Option ((Int32 × Int32 × PS) ⊕ ((Unit × PS) ⊕ (PS))) :=
  (if (sI S1 o0 1) ≤ x3 then some (.inr (.inr (S1))) else (if x3 < x2 then some (.inl (x2, x3 + 1, S1)) else (rk S1 (sR S1 o0 0) 12).bind fun b2 => if ib x3 (sN S1 b2) = true then (f_X7_isBlank (sI S1 b2 (Int32.toNatClampNeg x3)) S1).bind fun q4 => (if q4.1 = 0 then (f_X7_readToken o0 x3 q4.2).bind fun q5 => some (.inl (q5.1, x3 + 1, q5.2)) else some (.inl (x2, x3 + 1, q4.2))) else none))
def f_X7_split_59 (o0 : Nat) (S3 : PS) : Option (Unit × PS) :=
  (f_X7_add o0 (28 : Int32) (sI S3 o0 1) (0 : Int64) S3).bind fun q10 => some ((), q10.2)
def f_X7_split (o0 : Nat) (x1 : Int32) (S : PS) : Option (Unit × PS) :=
  (rk S (sR S o0 0) 12).bind fun b1 => (loopN (fun a => f_X7_split_b22 o0 a.1 a.2.1 a.2.2) fu ((0 : Int32), (0 : Int32), pI (pI S o0 1 (if (Int32.ofNat (sN S b1)) < x1 then (Int32.ofNat (sN S b1)) else x1)) o0 5 (0 : Int32))).bind (Sum.elim (fun r => some r) (fun a => f_X7_split_59 o0 a))
set_option maxHeartbeats 4000000 in
set_option maxRecDepth 100000 in
theorem k_X7_split (l : Launch) (D : va_G) (cy : Nat → ClassId) (kc : Nat → Nat) (o0 : Nat) (x1 : Int32) (S : PS) {qq : Unit × PS} (h : f_X7_split o0 x1 S = some qq) (t_o0 : tD S o0 7) : KV l D cy kc yX7_split cX7_split 4 (rmK 9 324 0 0) [.ref o0, .int x1] S qq.2 := by
  refine K_body (Qc := QV D cy S qq.2) (by decide) (Nat.le_of_ble_eq_true rfl) ?_
  intro p e s m below meth c A ls args E hr hlk hnm hA F hw hl
  have hx := E.1
  have hb := E.2.1
  have hl : lv_has ls 4 [(0, .ref o0), (1, .int x1)] := hl
  have hg : Gr S S := Gr.rf
  replace h : (f_X7_split o0 x1 S).bind some = some qq := by rw [h]; rfl
  have L22 : ∀ (o0 : Nat) (n : Nat) (x2 : Int32) (x3 : Int32) (S1 : PS) (o : (Unit × PS) ⊕ (PS)), loopN (fun a => f_X7_split_b22 o0 a.1 a.2.1 a.2.2) n (x2, x3, S1) = some o → ∀ (H : Heap) (locs : List Loc) (ls : Array Slot), Wd D cy A s H locs S1 → Gr S S1 → tD S1 o0 7 → lv_has ls 4 [(0, .ref o0), (2, .int x2), (3, .int x3)] → (∀ (S2 : PS), o = .inr (S2) → ∀ (H : Heap) (locs : List Loc) (ls : Array Slot), Wd D cy A s H locs S2 → Gr S1 S2 → lv_has ls 4 [(0, .ref o0)] → W p l e (rmK 9 324 0 0) s m args below meth c H locs 0 0 (MQ below (QV D cy S qq.2 s.heap.size) args s 0 0 A) (F0 m 59 ls [])) → (∀ q9, o = .inl q9 → q9 = qq) → W p l e (rmK 9 324 0 0) s m args below meth c H locs 0 0 (MQ below (QV D cy S qq.2 s.heap.size) args s 0 0 A) (F0 m 22 ls []) := by
    intro o0 n
    induction n with
    | zero => intro x2 x3 S1 o h; exact absurd h (by simp [loopN])
    | succ n ih =>
      intro x2 x3 S1 o h H locs ls hw hG0 t_o0 hl hx2 hq2
      have hg : Gr S1 S1 := Gr.rf
      replace h : (f_X7_split_b22 o0 x2 x3 S1).bind (Sum.elim (loopN (fun a => f_X7_split_b22 o0 a.1 a.2.1 a.2.2) n) some) = some o := h
      rw [f_X7_split_b22] at h
      refine lv_iload_n hx hb dX7_split_22 rfl (lv_at hl 2 rfl) ?_
      refine lv_aload_n hx hb dX7_split_23 rfl (lv_at hl 0 rfl) ?_
      refine g_f E F hw t_o0 cf7 fk_X7_9 dX7_split_24 rfl ?_
      refine lv_icmp_ge (tgt := 59) hx hb dX7_split_27 (by decide) (fun c8 => ?_) (fun c8 => ?_)
      · rw [if_pos c8] at h
        obtain rfl := Option.some.inj h
        exact hx2 S1 rfl _ _ _ hw hg (lv_sub hl [0] rfl)
      · rw [if_neg c8] at h
        refine lv_iload_n hx hb dX7_split_30 rfl (lv_at hl 2 rfl) ?_
        refine lv_iload_n hx hb dX7_split_31 rfl (lv_at hl 1 rfl) ?_
        refine lv_icmp_lt (tgt := 53) hx hb dX7_split_32 (by decide) (fun c7 => ?_) (fun c7 => ?_)
        · rw [if_pos c7] at h
          refine lv_iinc (v := x3 + 1) (lv' := [(3, .int (x3 + 1)), (0, .ref o0), (2, .int x2)]) hx hb dX7_split_53 hl (k := 2) rfl rfl (by decide) rfl (fun ls hl => ?_)
          refine lv_goto (tgt := 22) hx hb dX7_split_56 (by decide) ?_
          exact ih x2 (x3 + 1) S1 _ h _ _ _ hw (hG0.tr hg) t_o0 (lv_sub hl [1, 2, 0] rfl) (fun  S2 he H locs ls hw hG hl => hx2  S2 he H locs ls hw (hg.tr hG) hl) hq2
        · rw [if_neg c7] at h
          refine lv_aload_n hx hb dX7_split_35 rfl (lv_at hl 0 rfl) ?_
          obtain ⟨b2, r_b2, h⟩ := bb h
          obtain ⟨r_b2, t_b2⟩ := rk_some r_b2
          refine g_R E F hw t_o0 cf7 fk_X7_29 dX7_split_36 rfl r_b2 ?_
          refine lv_iload_n hx hb dX7_split_39 rfl (lv_at hl 2 rfl) ?_
          obtain ⟨c3, h⟩ := bg h
          refine a_c E F hw t_b2 c3 dX7_split_40 ?_
          obtain ⟨q4, h_q4, h⟩ := bb h
          refine z_SI E F hw [.int (sI S1 b2 (Int32.toNatClampNeg x3))] (k_X7_isBlank l D cy kc (sI S1 b2 (Int32.toNatClampNeg x3)) S1 h_q4) mk_X7_isBlank sk_X7_isBlank ml_X7_39 ⟨by decide, by decide⟩ rfl hl.1 rfl (Nat.le_of_ble_eq_true rfl) dX7_split_41 ⟨Nat.zero_le _, Nat.zero_le _⟩ (fun H locs hw hG => ?_)
          have t_o0 := hG.t t_o0
          have hg := hg.tr hG
          refine lv_if_ne (tgt := 53) hx hb dX7_split_44 (by decide) (fun c6 => ?_) (fun c6 => ?_)
          · rw [if_neg c6] at h
            refine lv_iinc (v := x3 + 1) (lv' := [(3, .int (x3 + 1)), (0, .ref o0), (2, .int x2)]) hx hb dX7_split_53 hl (k := 2) rfl rfl (by decide) rfl (fun ls hl => ?_)
            refine lv_goto (tgt := 22) hx hb dX7_split_56 (by decide) ?_
            exact ih x2 (x3 + 1) q4.2 _ h _ _ _ hw (hG0.tr hg) t_o0 (lv_sub hl [1, 2, 0] rfl) (fun  S2 he H locs ls hw hG hl => hx2  S2 he H locs ls hw (hg.tr hG) hl) hq2
          · rw [if_pos c6] at h
            refine lv_aload_n hx hb dX7_split_47 rfl (lv_at hl 0 rfl) ?_
            refine lv_iload_n hx hb dX7_split_48 rfl (lv_at hl 2 rfl) ?_
            obtain ⟨q5, h_q5, h⟩ := bb h
            refine z_VI E F hw [.int x3] (k_X7_readToken l D cy kc o0 x3 q4.2 h_q5 t_o0) t_o0 cf7 mk_X7_readToken vk_X7_readToken ml_X7_43 ⟨by decide, by decide⟩ rfl hl.1 rfl (Nat.le_of_ble_eq_true rfl) dX7_split_49 ⟨Nat.zero_le _, Nat.zero_le _⟩ (fun H locs hw hG => ?_)
            have t_o0 := hG.t t_o0
            have hg := hg.tr hG
            refine lv_istore_n (lv' := [(2, .int q5.1), (0, .ref o0), (3, .int x3)]) hx hb dX7_split_52 rfl hl (by decide) rfl (fun ls hl => ?_)
            refine lv_iinc (v := x3 + 1) (lv' := [(3, .int (x3 + 1)), (2, .int q5.1), (0, .ref o0)]) hx hb dX7_split_53 hl (k := 2) rfl rfl (by decide) rfl (fun ls hl => ?_)
            refine lv_goto (tgt := 22) hx hb dX7_split_56 (by decide) ?_
            exact ih q5.1 (x3 + 1) q5.2 _ h _ _ _ hw (hG0.tr hg) t_o0 (lv_sub hl [2, 1, 0] rfl) (fun  S2 he H locs ls hw hG hl => hx2  S2 he H locs ls hw (hg.tr hG) hl) hq2
  have J59 : ∀  (S3 : PS) (H : Heap) (locs : List Loc) (ls : Array Slot), (f_X7_split_59 o0 S3).bind some = some qq → Wd D cy A s H locs S3 → Gr S S3 → tD S3 o0 7 → lv_has ls 4 [(0, .ref o0)] → W p l e (rmK 9 324 0 0) s m args below meth c H locs 0 0 (MQ below (QV D cy S qq.2 s.heap.size) args s 0 0 A) (F0 m 59 ls []) := by
    intro  S3 H locs ls h hw hg t_o0 hl
    rw [f_X7_split_59] at h
    refine lv_aload_n hx hb dX7_split_59 rfl (lv_at hl 0 rfl) ?_
    refine lv_bipush (v := 28) hx hb dX7_split_60 (by decide) ?_
    refine lv_aload_n hx hb dX7_split_62 rfl (lv_at hl 0 rfl) ?_
    refine g_f E F hw t_o0 cf7 fk_X7_9 dX7_split_63 rfl ?_
    refine lv_lconst (v := 0) hx hb dX7_split_66 (by decide) ?_
    obtain ⟨q10, h_q10, h⟩ := bb h
    refine z_VV E F hw [.int (28 : Int32), .int (sI S3 o0 1), .long (0 : Int64)] (k_X7_add l D cy kc o0 (28 : Int32) (sI S3 o0 1) (0 : Int64) S3 h_q10 t_o0) t_o0 cf7 mk_X7_add vk_X7_add ml_X7_47 ⟨by decide, by decide⟩ rfl hl.1 rfl (Nat.le_of_ble_eq_true rfl) dX7_split_67 ⟨Nat.zero_le _, Nat.zero_le _⟩ (fun H locs hw hG => ?_)
    have t_o0 := hG.t t_o0
    have hg := hg.tr hG
    obtain rfl := Option.some.inj h
    exact r_V E hr hlk F hA hw hg dX7_split_70
  rw [f_X7_split] at h
  refine lv_aload_n hx hb dX7_split_0 rfl (lv_at hl 0 rfl) ?_
  refine lv_iload_n hx hb dX7_split_1 rfl (lv_at hl 1 rfl) ?_
  refine lv_aload_n hx hb dX7_split_2 rfl (lv_at hl 0 rfl) ?_
  obtain ⟨b1, r_b1, h⟩ := bb h
  obtain ⟨r_b1, t_b1⟩ := rk_some r_b1
  refine g_R E F hw t_o0 cf7 fk_X7_29 dX7_split_3 rfl r_b1 ?_
  refine a_len_c E F hw t_b1 dX7_split_6 ?_
  refine va_mmin hx hb (E.2.2.1.trans hl.1.symm) E.2.2.2.1 (E.2.2.2.2 _ mm_X7_33) (E.2.2.2.2 _ mm_s_min) (E.2.2.2.2 _ mm_i) (E.2.2.2.2 _ mm_c_min) (by decide) (Nat.le_of_ble_eq_true rfl) (Nat.zero_le _) (Nat.zero_le _) dX7_split_7 ?_
  refine p_I E F hw t_o0 cf7 fk_X7_9 rfl rfl rfl dX7_split_10 rfl (fun H locs hw => ?_)
  refine lv_aload_n hx hb dX7_split_13 rfl (lv_at hl 0 rfl) ?_
  refine lv_iconst (v := 0) hx hb dX7_split_14 (by decide) ?_
  refine p_I E F hw t_o0 cf7 fk_X7_26 rfl rfl rfl dX7_split_15 rfl (fun H locs hw => ?_)
  refine lv_iconst (v := 0) hx hb dX7_split_18 (by decide) ?_
  refine lv_istore_n (lv' := [(2, .int (0 : Int32)), (0, .ref o0), (1, .int x1)]) hx hb dX7_split_19 rfl hl (by decide) rfl (fun ls hl => ?_)
  refine lv_iconst (v := 0) hx hb dX7_split_20 (by decide) ?_
  refine lv_istore_n (lv' := [(3, .int (0 : Int32)), (2, .int (0 : Int32)), (0, .ref o0), (1, .int x1)]) hx hb dX7_split_21 rfl hl (by decide) rfl (fun ls hl => ?_)
  obtain ⟨y9, hy9, h⟩ := bb h
  refine L22 o0 fu (0 : Int32) (0 : Int32) (pI (pI S o0 1 (if (Int32.ofNat (sN S b1)) < x1 then (Int32.ofNat (sN S b1)) else x1)) o0 5 (0 : Int32)) y9 hy9 _ _ _ hw (hg) t_o0 (lv_sub hl [2, 1, 0] rfl) (fun  S2 he H locs ls hw hG hl => ?_) (fun r he => ?_)
  · subst he
    have t_o0 := hG.t t_o0
    have hg := hg.tr hG
    exact J59  S2 _ _ _ h hw hg t_o0 (lv_sub hl [0] rfl)
  · subst he
    exact Option.some.inj h
