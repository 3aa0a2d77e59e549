section LawRows
variable {p : Program} {l : Launch} {e : Env} {R : Room} {s : State} {m : MethodId} {args : Array Value} {below : List Frame} {meth : Method} {c : Code} {H : Heap} {locs : List Loc} {cells slots mc ms : Nat} {Q : State → Prop} {cc : ByteArray} {pc nL : Nat} {ls : Array Slot} {rest : List Value} {own : String} {D : va_G} {cy : Nat → ClassId} {kc : Nat → Nat} {A : Nat → Prop} {S S0 : PS}

theorem w_ofWH {y : MethodName} {ws ws' : List Cond} {rm : Room} {Pc : Array Value → State → Prop} {Qc : Array Value → State → Outcome → State → Prop} {free : Addr → Prop} {maxL : Nat} {ret : Option FieldType} {hh : List (Nat × Nat × Nat × Nat)}
    (hy : plainName y.cls = true) (hw : ws = Cond.codeWith y cc maxL ret hh :: ws')
    (body : ∀ p e s m args below meth c s₁, BodyLoose p l y (headSpec ws rm) cc maxL ret e s m args below meth c s₁ → c.maxLocals = maxL → Pc args s →
      W p l e (headSpec ws rm).room s m args below meth c s.heap [] 0 0 (MQ below Qc args s mc ms free) (entryFrame m args maxL)) : Met l y ws rm Pc Qc mc ms free := by
  refine MetFree.of_bodyS (code := cc) (maxLocals := maxL) (ret := ret) hy ?_ ?_
  · intro args s m h hn
    obtain ⟨m9, meth, c, hn9, h1, h2, h3, h4, -, h5, h6, -⟩ := Cond.codeWith_spec (atoms_spec (ws := ws) h _ (by rw [hw]; exact List.mem_cons_self))
    cases hn.symm.trans hn9
    exact ⟨meth, c, h1, h2, h3, h4, h5, h6⟩
  · intro p e s m args below meth c s₁ B hml hP _
    have hh0 : s₁.heap = s.heap := by rw [B.state]; rfl
    obtain ⟨t, a1, o, b1, b2, b3⟩ := body p e s m args below meth c s₁ B hml hP s₁ hh0 (Stand.of_body B)
    exact ⟨t, o, a1, b1, b2, b3⟩
theorem L_body {ret : Option FieldType} {y : MethodName} {rm : Room} {av : List Value} {hh : List (Nat × Nat × Nat × Nat)} {Qc : Nat → Array Value → State → Outcome → State → Prop} (hy : plainName y.cls = true) (hs : (lg_sl av).length ≤ nL)
    (body : ∀ (p : Program) (e : Env) (s : State) (m : MethodId) (below : List Frame) (meth : Method) (c : Code) (A : Nat → Prop) (ls : Array Slot) (args : Array Value), CallFix p m c cc nL s args LW y.cls → meth.sig.returnType = ret → meth.locks = false → A = va_A (PW cy S) s.heap.size → Fx D cy kc A s → Wd D cy A s s.heap [] S → lv_has ls nL (lv_args 0 av) → c.exceptionTable.toList = tableOf hh →
      W p l e rm s m args below meth c s.heap [] 0 0 (MQ below (Qc s.heap.size) args s rm.cells rm.slots A) (F0 m 0 ls [])) :
    ∀ sz, Met l y (.codeWith y cc nL ret hh :: LW) rm (va_Pc av (PB D cy kc S sz)) (Qc sz) rm.cells rm.slots (va_A (PW cy S) sz) := by
  intro sz
  refine w_ofWH (cc := cc) (maxL := nL) (ret := ret) (hh := hh) hy rfl ?_
  intro p e s m args below meth c s₁ B hml hv
  obtain ⟨rfl, hsz, hP, hK, hD0, hSt⟩ := hv
  have hts : ∀ w ∈ LW, w.before av.toArray s = true := fun w hw => atoms_spec (ws := .codeWith y cc nL ret hh :: LW) B.pre w (List.mem_cons_of_mem _ hw)
  have hown : s.vm.findClass y.cls = some m.cls := findClass_of_methodNamed B.named
  have htab := vx_table (x := y) (hh := hh) B (atoms_spec (ws := .codeWith y cc nL ret hh :: LW) B.pre _ List.mem_cons_self)
  subst hsz
  rw [lg_entry_eq]
  exact body p e s m below meth c _ _ _ ⟨B.exec, B.bytes, hml, hown, hts⟩ B.returns B.notSynchronized rfl ⟨hK, fun q h => Or.inr h, hSt⟩ ⟨hP, hD0.self, va_S.rf⟩ (lv_entry av hs) htab
theorem nse_c (F : Fx D cy kc A s) : (Cond.castable NSE NSE).before args s = true := va_Nw.use rfl (F.2.2.2.1 _ (List.mem_filter.mpr ⟨List.mem_append_right _ (tb5 _ (List.mem_of_getElem? (i := 170) rfl)), rfl⟩))
theorem x_VI (E : CallFix p m c cc nL s args LW own) (F : Fx D cy kc A s) (hw : Wd D cy A s H locs S) {y : MethodName} {bytes : ByteArray} {maxL n index : Nat} {rt : FieldType} {rm : Room} {b ci N : Nat} {T : u_T} {ty0 : Nat → FieldType} {post : Option Int32 → PS → Prop} (As : List Value) (hk : XI l D cy kc y bytes maxL rt rm (.ref b :: As) S post) (ht : tD S b ci) (hc : CF ci y.cls T N ty0) (hM : MK y bytes maxL (some rt) n) (hV : VK y) (hl : Cond.methodLink own index y ∈ LW) (hR : rm.frames + 1 ≤ R.frames ∧ 8 + (maxL + 11) + rm.locals ≤ R.locals) (hn : As.length = n) (hsz : ls.size = nL) {st : List Value} (hst : st = As.reverse ++ .ref b :: rest) (hrest : (rest.map fun v => v.category).sum ≤ 8) (hdg : decode cc pc = .ok (.invokevirtual index, 3)) (hf : cells + rm.cells ≤ R.cells ∧ slots + rm.slots ≤ R.slots)
    (kx : ∀ (S1 : PS) (H : Heap) (locs : List Loc) (q9 : Addr) (ce : Cell), post none S1 → Wd D cy A s H locs S1 → Gr S S1 → H[q9]? = some ce → ce.vm = .none → s.vm.findClass NSE = some ce.cls → vx_W p l e R s m args below meth c H locs (cells + rm.cells) (slots + rm.slots) Q (F0 m pc ls rest) q9)
    (kk : ∀ (r : Int32) (S1 : PS) (H : Heap) (locs : List Loc), post (some r) S1 → Wd D cy A s H locs S1 → Gr S S1 → W p l e R s m args below meth c H locs (cells + rm.cells) (slots + rm.slots) Q (F0 m (pc + 3) ls (.int r :: rest))) : W p l e R s m args below meth c H locs cells slots Q (F0 m pc ls st) := by
  refine vx_calli (vx_runV (rm := rm) E (hk H.size) ⟨c_B E hM hl hR, E.2.2.2.2 _ hV.1, E.2.2.2.2 _ hV.2⟩ ⟨PB_blind, c_recv F hw ht hc, fun U hU hW => ⟨rfl, PB_of F hw hU hW⟩⟩ rfl hn hsz hst (by simpa using hrest) hdg hf) hw.2.2 (fun q _ h => Wd_free F hw q h) (Wd_free F hw) (fun q _ h => Wd_free F hw q h) (fun E1 ce q9 u t H1 locs1 ht1 hvm hp hB _ _ hS hce hcv hcl => ?_) (fun r u t H1 locs1 ht1 hvm hp hB _ _ hS => ?_)
  · obtain ⟨rfl, hB⟩ := hB
    exact kx u H1 locs1 q9 ce hp.1 (Wd_back F hw ht1 hB hS) hp.2 hce hcv hcl
  · exact kk r u H1 locs1 hp.1 (Wd_back F hw ht1 hB hS) hp.2
theorem x_VJ (E : CallFix p m c cc nL s args LW own) (F : Fx D cy kc A s) (hw : Wd D cy A s H locs S) {y : MethodName} {bytes : ByteArray} {maxL n index : Nat} {rm : Room} {b ci N : Nat} {T : u_T} {ty0 : Nat → FieldType} {post : Option Int64 → PS → Prop} (As : List Value) (hk : XJ l D cy kc y bytes maxL rm (.ref b :: As) S post) (ht : tD S b ci) (hc : CF ci y.cls T N ty0) (hM : MK y bytes maxL (some .long) n) (hV : VK y) (hl : Cond.methodLink own index y ∈ LW) (hR : rm.frames + 1 ≤ R.frames ∧ 8 + (maxL + 11) + rm.locals ≤ R.locals) (hn : As.length = n) (hsz : ls.size = nL) {st : List Value} (hst : st = As.reverse ++ .ref b :: rest) (hrest : (rest.map fun v => v.category).sum ≤ 8) (hdg : decode cc pc = .ok (.invokevirtual index, 3)) (hf : cells + rm.cells ≤ R.cells ∧ slots + rm.slots ≤ R.slots)
    (kx : ∀ (S1 : PS) (H : Heap) (locs : List Loc) (q9 : Addr) (ce : Cell), post none S1 → Wd D cy A s H locs S1 → Gr S S1 → H[q9]? = some ce → ce.vm = .none → s.vm.findClass NSE = some ce.cls → vx_W p l e R s m args below meth c H locs (cells + rm.cells) (slots + rm.slots) Q (F0 m pc ls rest) q9)
    (kk : ∀ (r : Int64) (S1 : PS) (H : Heap) (locs : List Loc), post (some r) S1 → Wd D cy A s H locs S1 → Gr S S1 → W p l e R s m args below meth c H locs (cells + rm.cells) (slots + rm.slots) Q (F0 m (pc + 3) ls (.long r :: rest))) : W p l e R s m args below meth c H locs cells slots Q (F0 m pc ls st) := by
  refine vx_calll (vx_runV (rm := rm) E (hk H.size) ⟨c_B E hM hl hR, E.2.2.2.2 _ hV.1, E.2.2.2.2 _ hV.2⟩ ⟨PB_blind, c_recv F hw ht hc, fun U hU hW => ⟨rfl, PB_of F hw hU hW⟩⟩ rfl hn hsz hst (by simpa using hrest) hdg hf) hw.2.2 (fun q _ h => Wd_free F hw q h) (Wd_free F hw) (fun q _ h => Wd_free F hw q h) (fun E1 ce q9 u t H1 locs1 ht1 hvm hp hB _ _ hS hce hcv hcl => ?_) (fun r u t H1 locs1 ht1 hvm hp hB _ _ hS => ?_)
  · obtain ⟨rfl, hB⟩ := hB
    exact kx u H1 locs1 q9 ce hp.1 (Wd_back F hw ht1 hB hS) hp.2 hce hcv hcl
  · exact kk r u H1 locs1 hp.1 (Wd_back F hw ht1 hB hS) hp.2
theorem x_catch (E : CallFix p m c cc nL s args LW own) (F : Fx D cy kc A s) {a b h t : Nat} (ht : c.exceptionTable.toList = tableOf [(a, b, h, t)]) (hcv : covers ⟨a, b, h, t⟩ pc = true) (h0 : t ≠ 0) (hl : Cond.classLink own t NSE ∈ LW) {q9 : Addr} {ce : Cell} (hce : H[q9]? = some ce) (hv : ce.vm = .none) (hcl : s.vm.findClass NSE = some ce.cls)
    (kk : W p l e R s m args below meth c H locs cells slots Q (F0 m h ls [.ref q9])) : vx_W p l e R s m args below meth c H locs cells slots Q (F0 m pc ls rest) q9 :=
  vx_catch (own := own) (name := NSE) (E := NSE) E.2.2.2.1 [] ⟨a, b, h, t⟩ [] (by rw [ht]; rfl) (fun z hz => by cases hz) hcv h0 (E.2.2.2.2 _ hl) (nse_c F) hce hv hcl kk
def LI (l : Launch) (D : va_G) (cy : Nat → ClassId) (kc : Nat → Nat) (y : MethodName) (cc : ByteArray) (nL : Nat) (hh : List (Nat × Nat × Nat × Nat)) (rm : Room) (av : List Value) (S : PS) (post : Int32 → PS → Prop) : Prop :=
  ∀ sz, Met l y (.codeWith y cc nL (some .int) hh :: LW) rm (va_Pc av (PB D cy kc S sz)) (GI D cy S post sz) rm.cells rm.slots (va_A (PW cy S) sz)
def LK (y : MethodName) (cc : ByteArray) (nL : Nat) (hh : List (Nat × Nat × Nat × Nat)) (n : Nat) : Prop := Cond.codeWith y cc nL (some .int) hh ∈ LW ∧ Cond.static y ∈ LW ∧ Cond.initialized y.cls ∈ LW ∧ (y.cls ≠ "java/lang/invoke/MethodHandle" ∧ y.cls ≠ "java/lang/invoke/VarHandle" ∧ (parseMethodDescriptor y.desc).map (fun d => d.parameters.length) = some n)
theorem l_SI (E : CallFix p m c cc nL s args LW own) (F : Fx D cy kc A s) (hw : Wd D cy A s H locs S) {y : MethodName} {bytes : ByteArray} {maxL n index : Nat} {hh : List (Nat × Nat × Nat × Nat)} {rm : Room} {post : Int32 → PS → Prop} (As : List Value) (hk : LI l D cy kc y bytes maxL hh rm As S post) (hM : LK y bytes maxL hh n) (hl : Cond.methodLink own index y ∈ LW) (hR : rm.frames + 1 ≤ R.frames ∧ 8 + (maxL + 11) + rm.locals ≤ R.locals) (hn : As.length = n) (hsz : ls.size = nL) {st : List Value} (hst : st = As.reverse ++ rest) (hrest : (rest.map fun v => v.category).sum ≤ 8) (hdg : decode cc pc = .ok (.invokestatic index, 3)) (hf : cells + rm.cells ≤ R.cells ∧ slots + rm.slots ≤ R.slots)
    (kk : ∀ (r : Int32) (S1 : PS) (H : Heap) (locs : List Loc), post r S1 → Wd D cy A s H locs S1 → Gr S S1 → W p l e R s m args below meth c H locs (cells + rm.cells) (slots + rm.slots) Q (F0 m (pc + 3) ls (.int r :: rest))) : W p l e R s m args below meth c H locs cells slots Q (F0 m pc ls st) := by
  have hg : GoodIn LW (va_wsS own index y (.codeWith y bytes maxL (some .int) hh :: LW)) := LW_app (by
    intro w hw
    rcases List.mem_cons.mp hw with rfl | hw
    · exact hl
    rcases List.mem_cons.mp hw with rfl | hw
    · exact hM.2.1
    rcases List.mem_cons.mp hw with rfl | hw
    · exact hM.2.2.1
    cases hw) (LW_good hM.1)
  exact va_calli (vx_runSW (rm := rm) E (hk H.size) (vx_cwSW n E.2.2.2.2 hg rfl rfl rfl hM.2.2.2 hR) ⟨PB_blind, fun U hU hW => ⟨rfl, PB_of F hw hU hW⟩⟩ rfl hn hsz hst (by simpa using hrest) hdg hf) hw.2.2 (fun q _ h => Wd_free F hw q h) (Wd_free F hw) (fun r1 u t H1 locs1 ht1 hvm hp hB _ _ hS =>
    kk r1 u H1 locs1 hp.1 (Wd_back F hw ht1 hB hS) hp.2)
end LawRows
theorem lk_L_worth : LK yL_worth cL_worth 7 [(0, 14, 17, 13)] 6 := ⟨LW_t tb5 (k := 159) rfl rfl, LW_t tb5 (k := 158) rfl rfl, LW_t tb1 (k := 0) rfl rfl, by decide, by decide, by decide +kernel⟩
def gp_L_worth (o5 : Nat) (post : Int32 → PS → Prop) : Option Int32 → PS → Prop
  | none, S1 => post 1 S1
  | some v, S1 => (ib 0 (sN S1 o5) = true) ∧ post 0 (pJ S1 o5 0 (Int32.toInt64 v))
def g_L_worth (o0 : Nat) (x1 : Int32) (x2 : Int32) (x3 : Int32) (x4 : Int32) (o5 : Nat) (S : PS) (post : Int32 → PS → Prop) : Prop := g_X10_worth o0 x1 x2 x3 x4 S (gp_L_worth o5 post)
theorem k_L_worth (l : Launch) (hst : l.stackTraces = false) (D : va_G) (cy : Nat → ClassId) (kc : Nat → Nat) (o0 : Nat) (x1 : Int32) (x2 : Int32) (x3 : Int32) (x4 : Int32) (o5 : Nat) (S : PS) {post : Int32 → PS → Prop} (h : g_L_worth o0 x1 x2 x3 x4 o5 S post) (t_o0 : tD S o0 10) (t_o5 : tD S o5 14) : LI l D cy kc yL_worth cL_worth 7 [(0, 14, 17, 13)] (rmK 10 216 2 12) [.ref o0, .int x1, .int x2, .int x3, .int x4, .ref o5] S post := by
  refine L_body (Qc := fun sz => GI D cy S post sz) (by decide) (Nat.le_of_ble_eq_true rfl) ?_
  intro p e s m below meth c A ls args E hr hlk hA F hw hl htab
  have hx := E.1
  have hb := E.2.1
  have hl : lv_has ls 7 [(0, .ref o0), (1, .int x1), (2, .int x2), (3, .int x3), (4, .int x4), (5, .ref o5)] := hl
  rw [g_L_worth] at h
  refine lv_aload hx hb dL_worth_0 (lv_at hl 5 rfl) ?_
  refine lv_iconst (v := 0) hx hb dL_worth_2 (by decide) ?_
  refine lv_aload_n hx hb dL_worth_3 rfl (lv_at hl 0 rfl) ?_
  refine lv_iload_n hx hb dL_worth_4 rfl (lv_at hl 1 rfl) ?_
  refine lv_iload_n hx hb dL_worth_5 rfl (lv_at hl 2 rfl) ?_
  refine lv_iload_n hx hb dL_worth_6 rfl (lv_at hl 3 rfl) ?_
  refine lv_iload hx hb dL_worth_7 (lv_at hl 4 rfl) ?_
  refine x_VI E F hw [.int x1, .int x2, .int x3, .int x4] (k_X10_worth l hst D cy kc o0 x1 x2 x3 x4 S h t_o0) t_o0 cf10 mk_X10_worth vk_X10_worth ml_L_7 ⟨by decide, by decide⟩ rfl hl.1 rfl (Nat.le_of_ble_eq_true rfl) dL_worth_9 ⟨(Nat.le_of_ble_eq_true rfl), (Nat.le_of_ble_eq_true rfl)⟩ (fun S1 H locs q9 ce h hw hG hce hcv hcl => ?_) (fun r S1 H locs h hw hG => ?_)
  · refine x_catch E F htab (by decide) (by decide) kk_L_13 hce hcv hcl ?_
    refine lv_astore (lv' := [(6, .ref q9), (0, .ref o0), (1, .int x1), (2, .int x2), (3, .int x3), (4, .int x4), (5, .ref o5)]) hx hb dL_worth_17 hl (by decide) rfl (fun ls hl => ?_)
    refine lv_iconst (v := 1) hx hb dL_worth_19 (by decide) ?_
    exact h_I E hr hlk F hA hw hG h (Nat.le_of_ble_eq_true rfl) (Nat.le_of_ble_eq_true rfl) dL_worth_20
  · obtain ⟨c1, h⟩ := h
    have t_o5 := hG.t t_o5
    refine lv_i2l hx hb dL_worth_12 rfl ?_
    refine b_j E F hw t_o5 c1 dL_worth_13 (fun H locs hw => ?_)
    refine lv_goto (tgt := 21) hx hb dL_worth_14 (by decide) ?_
    refine lv_iconst (v := 0) hx hb dL_worth_21 (by decide) ?_
    exact h_I E hr hlk F hA hw hG h (Nat.le_of_ble_eq_true rfl) (Nat.le_of_ble_eq_true rfl) dL_worth_22
theorem lk_L_value : LK yL_value cL_value 7 [(0, 13, 16, 13)] 6 := ⟨LW_t tb5 (k := 236) rfl rfl, LW_t tb5 (k := 235) rfl rfl, LW_t tb1 (k := 0) rfl rfl, by decide, by decide, by decide +kernel⟩
def gp_L_value (o5 : Nat) (post : Int32 → PS → Prop) : Option Int64 → PS → Prop
  | none, S1 => post 1 S1
  | some v, S1 => (ib 0 (sN S1 o5) = true) ∧ post 0 (pJ S1 o5 0 v)
def g_L_value (o0 : Nat) (x1 : Int32) (x2 : Int32) (x3 : Int32) (x4 : Int32) (o5 : Nat) (S : PS) (post : Int32 → PS → Prop) : Prop := g_X10_value o0 x1 x2 x3 x4 S (gp_L_value o5 post)
theorem k_L_value (l : Launch) (hst : l.stackTraces = false) (D : va_G) (cy : Nat → ClassId) (kc : Nat → Nat) (o0 : Nat) (x1 : Int32) (x2 : Int32) (x3 : Int32) (x4 : Int32) (o5 : Nat) (S : PS) {post : Int32 → PS → Prop} (h : g_L_value o0 x1 x2 x3 x4 o5 S post) (t_o0 : tD S o0 10) (t_o5 : tD S o5 14) : LI l D cy kc yL_value cL_value 7 [(0, 13, 16, 13)] (rmK 10 295 1 6) [.ref o0, .int x1, .int x2, .int x3, .int x4, .ref o5] S post := by
  refine L_body (Qc := fun sz => GI D cy S post sz) (by decide) (Nat.le_of_ble_eq_true rfl) ?_
  intro p e s m below meth c A ls args E hr hlk hA F hw hl htab
  have hx := E.1
  have hb := E.2.1
  have hl : lv_has ls 7 [(0, .ref o0), (1, .int x1), (2, .int x2), (3, .int x3), (4, .int x4), (5, .ref o5)] := hl
  rw [g_L_value] at h
  refine lv_aload hx hb dL_value_0 (lv_at hl 5 rfl) ?_
  refine lv_iconst (v := 0) hx hb dL_value_2 (by decide) ?_
  refine lv_aload_n hx hb dL_value_3 rfl (lv_at hl 0 rfl) ?_
  refine lv_iload_n hx hb dL_value_4 rfl (lv_at hl 1 rfl) ?_
  refine lv_iload_n hx hb dL_value_5 rfl (lv_at hl 2 rfl) ?_
  refine lv_iload_n hx hb dL_value_6 rfl (lv_at hl 3 rfl) ?_
  refine lv_iload hx hb dL_value_7 (lv_at hl 4 rfl) ?_
  refine x_VJ E F hw [.int x1, .int x2, .int x3, .int x4] (k_X10_value l hst D cy kc o0 x1 x2 x3 x4 S h t_o0) t_o0 cf10 mk_X10_value vk_X10_value ml_L_15 ⟨by decide, by decide⟩ rfl hl.1 rfl (Nat.le_of_ble_eq_true rfl) dL_value_9 ⟨(Nat.le_of_ble_eq_true rfl), (Nat.le_of_ble_eq_true rfl)⟩ (fun S1 H locs q9 ce h hw hG hce hcv hcl => ?_) (fun r S1 H locs h hw hG => ?_)
  · refine x_catch E F htab (by decide) (by decide) kk_L_13 hce hcv hcl ?_
    refine lv_astore (lv' := [(6, .ref q9), (0, .ref o0), (1, .int x1), (2, .int x2), (3, .int x3), (4, .int x4), (5, .ref o5)]) hx hb dL_value_16 hl (by decide) rfl (fun ls hl => ?_)
    refine lv_iconst (v := 1) hx hb dL_value_18 (by decide) ?_
    exact h_I E hr hlk F hA hw hG h (Nat.le_of_ble_eq_true rfl) (Nat.le_of_ble_eq_true rfl) dL_value_19
  · obtain ⟨c1, h⟩ := h
    have t_o5 := hG.t t_o5
    refine b_j E F hw t_o5 c1 dL_value_12 (fun H locs hw => ?_)
    refine lv_goto (tgt := 20) hx hb dL_value_13 (by decide) ?_
    refine lv_iconst (v := 0) hx hb dL_value_20 (by decide) ?_
    exact h_I E hr hlk F hA hw hG h (Nat.le_of_ble_eq_true rfl) (Nat.le_of_ble_eq_true rfl) dL_value_21
theorem lk_L_odds : LK yL_odds cL_odds 6 [(0, 11, 14, 13)] 5 := ⟨LW_t tb6 (k := 13) rfl rfl, LW_t tb6 (k := 12) rfl rfl, LW_t tb1 (k := 0) rfl rfl, by decide, by decide, by decide +kernel⟩
def gp_L_odds (o4 : Nat) (post : Int32 → PS → Prop) : Option Int64 → PS → Prop
  | none, S1 => post 1 S1
  | some v, S1 => (ib 0 (sN S1 o4) = true) ∧ post 0 (pJ S1 o4 0 v)
def g_L_odds (o0 : Nat) (x1 : Int32) (x2 : Int32) (x3 : Int32) (o4 : Nat) (S : PS) (post : Int32 → PS → Prop) : Prop := g_X10_odds o0 x1 x2 x3 S (gp_L_odds o4 post)
theorem k_L_odds (l : Launch) (hst : l.stackTraces = false) (D : va_G) (cy : Nat → ClassId) (kc : Nat → Nat) (o0 : Nat) (x1 : Int32) (x2 : Int32) (x3 : Int32) (o4 : Nat) (S : PS) {post : Int32 → PS → Prop} (h : g_L_odds o0 x1 x2 x3 o4 S post) (t_o0 : tD S o0 10) (t_o4 : tD S o4 14) : LI l D cy kc yL_odds cL_odds 6 [(0, 11, 14, 13)] (rmK 10 294 1 6) [.ref o0, .int x1, .int x2, .int x3, .ref o4] S post := by
  refine L_body (Qc := fun sz => GI D cy S post sz) (by decide) (Nat.le_of_ble_eq_true rfl) ?_
  intro p e s m below meth c A ls args E hr hlk hA F hw hl htab
  have hx := E.1
  have hb := E.2.1
  have hl : lv_has ls 6 [(0, .ref o0), (1, .int x1), (2, .int x2), (3, .int x3), (4, .ref o4)] := hl
  rw [g_L_odds] at h
  refine lv_aload hx hb dL_odds_0 (lv_at hl 4 rfl) ?_
  refine lv_iconst (v := 0) hx hb dL_odds_2 (by decide) ?_
  refine lv_aload_n hx hb dL_odds_3 rfl (lv_at hl 0 rfl) ?_
  refine lv_iload_n hx hb dL_odds_4 rfl (lv_at hl 1 rfl) ?_
  refine lv_iload_n hx hb dL_odds_5 rfl (lv_at hl 2 rfl) ?_
  refine lv_iload_n hx hb dL_odds_6 rfl (lv_at hl 3 rfl) ?_
  refine x_VJ E F hw [.int x1, .int x2, .int x3] (k_X10_odds l hst D cy kc o0 x1 x2 x3 S h t_o0) t_o0 cf10 mk_X10_odds vk_X10_odds ml_L_19 ⟨by decide, by decide⟩ rfl hl.1 rfl (Nat.le_of_ble_eq_true rfl) dL_odds_7 ⟨(Nat.le_of_ble_eq_true rfl), (Nat.le_of_ble_eq_true rfl)⟩ (fun S1 H locs q9 ce h hw hG hce hcv hcl => ?_) (fun r S1 H locs h hw hG => ?_)
  · refine x_catch E F htab (by decide) (by decide) kk_L_13 hce hcv hcl ?_
    refine lv_astore (lv' := [(5, .ref q9), (0, .ref o0), (1, .int x1), (2, .int x2), (3, .int x3), (4, .ref o4)]) hx hb dL_odds_14 hl (by decide) rfl (fun ls hl => ?_)
    refine lv_iconst (v := 1) hx hb dL_odds_16 (by decide) ?_
    exact h_I E hr hlk F hA hw hG h (Nat.le_of_ble_eq_true rfl) (Nat.le_of_ble_eq_true rfl) dL_odds_17
  · obtain ⟨c1, h⟩ := h
    have t_o4 := hG.t t_o4
    refine b_j E F hw t_o4 c1 dL_odds_10 (fun H locs hw => ?_)
    refine lv_goto (tgt := 18) hx hb dL_odds_11 (by decide) ?_
    refine lv_iconst (v := 0) hx hb dL_odds_18 (by decide) ?_
    exact h_I E hr hlk F hA hw hG h (Nat.le_of_ble_eq_true rfl) (Nat.le_of_ble_eq_true rfl) dL_odds_19
theorem lk_L_stir : LK yL_stir cL_stir 5 [(0, 9, 12, 13)] 4 := ⟨LW_t tb6 (k := 45) rfl rfl, LW_t tb6 (k := 44) rfl rfl, LW_t tb1 (k := 0) rfl rfl, by decide, by decide, by decide +kernel⟩
def gp_L_stir (o3 : Nat) (post : Int32 → PS → Prop) : Option Int64 → PS → Prop
  | none, S1 => post 1 S1
  | some v, S1 => (ib 0 (sN S1 o3) = true) ∧ post 0 (pJ S1 o3 0 v)
def g_L_stir (o0 : Nat) (x1 : Int32) (x2 : Int32) (o3 : Nat) (S : PS) (post : Int32 → PS → Prop) : Prop := g_X10_stir o0 x1 x2 S (gp_L_stir o3 post)
theorem k_L_stir (l : Launch) (hst : l.stackTraces = false) (D : va_G) (cy : Nat → ClassId) (kc : Nat → Nat) (o0 : Nat) (x1 : Int32) (x2 : Int32) (o3 : Nat) (S : PS) {post : Int32 → PS → Prop} (h : g_L_stir o0 x1 x2 o3 S post) (t_o0 : tD S o0 10) (t_o3 : tD S o3 14) : LI l D cy kc yL_stir cL_stir 5 [(0, 9, 12, 13)] (rmK 10 293 1 6) [.ref o0, .int x1, .int x2, .ref o3] S post := by
  refine L_body (Qc := fun sz => GI D cy S post sz) (by decide) (Nat.le_of_ble_eq_true rfl) ?_
  intro p e s m below meth c A ls args E hr hlk hA F hw hl htab
  have hx := E.1
  have hb := E.2.1
  have hl : lv_has ls 5 [(0, .ref o0), (1, .int x1), (2, .int x2), (3, .ref o3)] := hl
  rw [g_L_stir] at h
  refine lv_aload_n hx hb dL_stir_0 rfl (lv_at hl 3 rfl) ?_
  refine lv_iconst (v := 0) hx hb dL_stir_1 (by decide) ?_
  refine lv_aload_n hx hb dL_stir_2 rfl (lv_at hl 0 rfl) ?_
  refine lv_iload_n hx hb dL_stir_3 rfl (lv_at hl 1 rfl) ?_
  refine lv_iload_n hx hb dL_stir_4 rfl (lv_at hl 2 rfl) ?_
  refine x_VJ E F hw [.int x1, .int x2] (k_X10_stir l hst D cy kc o0 x1 x2 S h t_o0) t_o0 cf10 mk_X10_stir vk_X10_stir ml_L_23 ⟨by decide, by decide⟩ rfl hl.1 rfl (Nat.le_of_ble_eq_true rfl) dL_stir_5 ⟨(Nat.le_of_ble_eq_true rfl), (Nat.le_of_ble_eq_true rfl)⟩ (fun S1 H locs q9 ce h hw hG hce hcv hcl => ?_) (fun r S1 H locs h hw hG => ?_)
  · refine x_catch E F htab (by decide) (by decide) kk_L_13 hce hcv hcl ?_
    refine lv_astore (lv' := [(4, .ref q9), (0, .ref o0), (1, .int x1), (2, .int x2), (3, .ref o3)]) hx hb dL_stir_12 hl (by decide) rfl (fun ls hl => ?_)
    refine lv_iconst (v := 1) hx hb dL_stir_14 (by decide) ?_
    exact h_I E hr hlk F hA hw hG h (Nat.le_of_ble_eq_true rfl) (Nat.le_of_ble_eq_true rfl) dL_stir_15
  · obtain ⟨c1, h⟩ := h
    have t_o3 := hG.t t_o3
    refine b_j E F hw t_o3 c1 dL_stir_8 (fun H locs hw => ?_)
    refine lv_goto (tgt := 16) hx hb dL_stir_9 (by decide) ?_
    refine lv_iconst (v := 0) hx hb dL_stir_16 (by decide) ?_
    exact h_I E hr hlk F hA hw hG h (Nat.le_of_ble_eq_true rfl) (Nat.le_of_ble_eq_true rfl) dL_stir_17
theorem lk_L_price : LK yL_price cL_price 8 [(0, 15, 18, 13)] 7 := ⟨LW_t tb6 (k := 56) rfl rfl, LW_t tb6 (k := 55) rfl rfl, LW_t tb1 (k := 0) rfl rfl, by decide, by decide, by decide +kernel⟩
def gp_L_price (o6 : Nat) (post : Int32 → PS → Prop) : Option Int64 → PS → Prop
  | none, S1 => post 1 S1
  | some v, S1 => (ib 0 (sN S1 o6) = true) ∧ post 0 (pJ S1 o6 0 v)
def g_L_price (o0 : Nat) (x1 : Int32) (x2 : Int32) (x3 : Int32) (x4 : Int32) (x5 : Int32) (o6 : Nat) (S : PS) (post : Int32 → PS → Prop) : Prop := g_X10_price o0 x1 x2 x3 x4 x5 S (gp_L_price o6 post)
theorem k_L_price (l : Launch) (hst : l.stackTraces = false) (D : va_G) (cy : Nat → ClassId) (kc : Nat → Nat) (o0 : Nat) (x1 : Int32) (x2 : Int32) (x3 : Int32) (x4 : Int32) (x5 : Int32) (o6 : Nat) (S : PS) {post : Int32 → PS → Prop} (h : g_L_price o0 x1 x2 x3 x4 x5 o6 S post) (t_o0 : tD S o0 10) (t_o6 : tD S o6 14) : LI l D cy kc yL_price cL_price 8 [(0, 15, 18, 13)] (rmK 10 296 1 6) [.ref o0, .int x1, .int x2, .int x3, .int x4, .int x5, .ref o6] S post := by
  refine L_body (Qc := fun sz => GI D cy S post sz) (by decide) (Nat.le_of_ble_eq_true rfl) ?_
  intro p e s m below meth c A ls args E hr hlk hA F hw hl htab
  have hx := E.1
  have hb := E.2.1
  have hl : lv_has ls 8 [(0, .ref o0), (1, .int x1), (2, .int x2), (3, .int x3), (4, .int x4), (5, .int x5), (6, .ref o6)] := hl
  rw [g_L_price] at h
  refine lv_aload hx hb dL_price_0 (lv_at hl 6 rfl) ?_
  refine lv_iconst (v := 0) hx hb dL_price_2 (by decide) ?_
  refine lv_aload_n hx hb dL_price_3 rfl (lv_at hl 0 rfl) ?_
  refine lv_iload_n hx hb dL_price_4 rfl (lv_at hl 1 rfl) ?_
  refine lv_iload_n hx hb dL_price_5 rfl (lv_at hl 2 rfl) ?_
  refine lv_iload_n hx hb dL_price_6 rfl (lv_at hl 3 rfl) ?_
  refine lv_iload hx hb dL_price_7 (lv_at hl 4 rfl) ?_
  refine lv_iload hx hb dL_price_9 (lv_at hl 5 rfl) ?_
  refine x_VJ E F hw [.int x1, .int x2, .int x3, .int x4, .int x5] (k_X10_price l hst D cy kc o0 x1 x2 x3 x4 x5 S h t_o0) t_o0 cf10 mk_X10_price vk_X10_price ml_L_27 ⟨by decide, by decide⟩ rfl hl.1 rfl (Nat.le_of_ble_eq_true rfl) dL_price_11 ⟨(Nat.le_of_ble_eq_true rfl), (Nat.le_of_ble_eq_true rfl)⟩ (fun S1 H locs q9 ce h hw hG hce hcv hcl => ?_) (fun r S1 H locs h hw hG => ?_)
  · refine x_catch E F htab (by decide) (by decide) kk_L_13 hce hcv hcl ?_
    refine lv_astore (lv' := [(7, .ref q9), (0, .ref o0), (1, .int x1), (2, .int x2), (3, .int x3), (4, .int x4), (5, .int x5), (6, .ref o6)]) hx hb dL_price_18 hl (by decide) rfl (fun ls hl => ?_)
    refine lv_iconst (v := 1) hx hb dL_price_20 (by decide) ?_
    exact h_I E hr hlk F hA hw hG h (Nat.le_of_ble_eq_true rfl) (Nat.le_of_ble_eq_true rfl) dL_price_21
  · obtain ⟨c1, h⟩ := h
    have t_o6 := hG.t t_o6
    refine b_j E F hw t_o6 c1 dL_price_14 (fun H locs hw => ?_)
    refine lv_goto (tgt := 22) hx hb dL_price_15 (by decide) ?_
    refine lv_iconst (v := 0) hx hb dL_price_22 (by decide) ?_
    exact h_I E hr hlk F hA hw hG h (Nat.le_of_ble_eq_true rfl) (Nat.le_of_ble_eq_true rfl) dL_price_23
theorem lk_L_gain : LK yL_gain cL_gain 10 [(0, 19, 22, 13)] 9 := ⟨LW_t tb6 (k := 78) rfl rfl, LW_t tb6 (k := 77) rfl rfl, LW_t tb1 (k := 0) rfl rfl, by decide, by decide, by decide +kernel⟩
def gp_L_gain (o8 : Nat) (post : Int32 → PS → Prop) : Option Int64 → PS → Prop
  | none, S1 => post 1 S1
  | some v, S1 => (ib 0 (sN S1 o8) = true) ∧ post 0 (pJ S1 o8 0 v)
def g_L_gain (o0 : Nat) (x1 : Int32) (x2 : Int32) (x3 : Int32) (x4 : Int32) (x5 : Int32) (x6 : Int32) (x7 : Int32) (o8 : Nat) (S : PS) (post : Int32 → PS → Prop) : Prop := g_X10_gain o0 x1 x2 x3 x4 x5 x6 x7 S (gp_L_gain o8 post)
theorem k_L_gain (l : Launch) (hst : l.stackTraces = false) (D : va_G) (cy : Nat → ClassId) (kc : Nat → Nat) (o0 : Nat) (x1 : Int32) (x2 : Int32) (x3 : Int32) (x4 : Int32) (x5 : Int32) (x6 : Int32) (x7 : Int32) (o8 : Nat) (S : PS) {post : Int32 → PS → Prop} (h : g_L_gain o0 x1 x2 x3 x4 x5 x6 x7 o8 S post) (t_o0 : tD S o0 10) (t_o8 : tD S o8 14) : LI l D cy kc yL_gain cL_gain 10 [(0, 19, 22, 13)] (rmK 10 299 1 6) [.ref o0, .int x1, .int x2, .int x3, .int x4, .int x5, .int x6, .int x7, .ref o8] S post := by
  refine L_body (Qc := fun sz => GI D cy S post sz) (by decide) (Nat.le_of_ble_eq_true rfl) ?_
  intro p e s m below meth c A ls args E hr hlk hA F hw hl htab
  have hx := E.1
  have hb := E.2.1
  have hl : lv_has ls 10 [(0, .ref o0), (1, .int x1), (2, .int x2), (3, .int x3), (4, .int x4), (5, .int x5), (6, .int x6), (7, .int x7), (8, .ref o8)] := hl
  rw [g_L_gain] at h
  refine lv_aload hx hb dL_gain_0 (lv_at hl 8 rfl) ?_
  refine lv_iconst (v := 0) hx hb dL_gain_2 (by decide) ?_
  refine lv_aload_n hx hb dL_gain_3 rfl (lv_at hl 0 rfl) ?_
  refine lv_iload_n hx hb dL_gain_4 rfl (lv_at hl 1 rfl) ?_
  refine lv_iload_n hx hb dL_gain_5 rfl (lv_at hl 2 rfl) ?_
  refine lv_iload_n hx hb dL_gain_6 rfl (lv_at hl 3 rfl) ?_
  refine lv_iload hx hb dL_gain_7 (lv_at hl 4 rfl) ?_
  refine lv_iload hx hb dL_gain_9 (lv_at hl 5 rfl) ?_
  refine lv_iload hx hb dL_gain_11 (lv_at hl 6 rfl) ?_
  refine lv_iload hx hb dL_gain_13 (lv_at hl 7 rfl) ?_
  refine x_VJ E F hw [.int x1, .int x2, .int x3, .int x4, .int x5, .int x6, .int x7] (k_X10_gain l hst D cy kc o0 x1 x2 x3 x4 x5 x6 x7 S h t_o0) t_o0 cf10 mk_X10_gain vk_X10_gain ml_L_31 ⟨by decide, by decide⟩ rfl hl.1 rfl (Nat.le_of_ble_eq_true rfl) dL_gain_15 ⟨(Nat.le_of_ble_eq_true rfl), (Nat.le_of_ble_eq_true rfl)⟩ (fun S1 H locs q9 ce h hw hG hce hcv hcl => ?_) (fun r S1 H locs h hw hG => ?_)
  · refine x_catch E F htab (by decide) (by decide) kk_L_13 hce hcv hcl ?_
    refine lv_astore (lv' := [(9, .ref q9), (0, .ref o0), (1, .int x1), (2, .int x2), (3, .int x3), (4, .int x4), (5, .int x5), (6, .int x6), (7, .int x7), (8, .ref o8)]) hx hb dL_gain_22 hl (by decide) rfl (fun ls hl => ?_)
    refine lv_iconst (v := 1) hx hb dL_gain_24 (by decide) ?_
    exact h_I E hr hlk F hA hw hG h (Nat.le_of_ble_eq_true rfl) (Nat.le_of_ble_eq_true rfl) dL_gain_25
  · obtain ⟨c1, h⟩ := h
    have t_o8 := hG.t t_o8
    refine b_j E F hw t_o8 c1 dL_gain_18 (fun H locs hw => ?_)
    refine lv_goto (tgt := 26) hx hb dL_gain_19 (by decide) ?_
    refine lv_iconst (v := 0) hx hb dL_gain_26 (by decide) ?_
    exact h_I E hr hlk F hA hw hG h (Nat.le_of_ble_eq_true rfl) (Nat.le_of_ble_eq_true rfl) dL_gain_27
theorem lk_L_lets : LK yL_lets cL_lets 10 [(0, 19, 22, 13)] 9 := ⟨LW_t tb6 (k := 94) rfl rfl, LW_t tb6 (k := 93) rfl rfl, LW_t tb1 (k := 0) rfl rfl, by decide, by decide, by decide +kernel⟩
def gp_L_lets (o8 : Nat) (post : Int32 → PS → Prop) : Option Int64 → PS → Prop
  | none, S1 => post 1 S1
  | some v, S1 => (ib 0 (sN S1 o8) = true) ∧ post 0 (pJ S1 o8 0 v)
def g_L_lets (o0 : Nat) (x1 : Int32) (x2 : Int32) (x3 : Int32) (x4 : Int32) (x5 : Int32) (x6 : Int32) (x7 : Int32) (o8 : Nat) (S : PS) (post : Int32 → PS → Prop) : Prop := g_X10_lets o0 x1 x2 x3 x4 x5 x6 x7 S (gp_L_lets o8 post)
theorem k_L_lets (l : Launch) (hst : l.stackTraces = false) (D : va_G) (cy : Nat → ClassId) (kc : Nat → Nat) (o0 : Nat) (x1 : Int32) (x2 : Int32) (x3 : Int32) (x4 : Int32) (x5 : Int32) (x6 : Int32) (x7 : Int32) (o8 : Nat) (S : PS) {post : Int32 → PS → Prop} (h : g_L_lets o0 x1 x2 x3 x4 x5 x6 x7 o8 S post) (t_o0 : tD S o0 10) (t_o8 : tD S o8 14) : LI l D cy kc yL_lets cL_lets 10 [(0, 19, 22, 13)] (rmK 10 301 1 6) [.ref o0, .int x1, .int x2, .int x3, .int x4, .int x5, .int x6, .int x7, .ref o8] S post := by
  refine L_body (Qc := fun sz => GI D cy S post sz) (by decide) (Nat.le_of_ble_eq_true rfl) ?_
  intro p e s m below meth c A ls args E hr hlk hA F hw hl htab
  have hx := E.1
  have hb := E.2.1
  have hl : lv_has ls 10 [(0, .ref o0), (1, .int x1), (2, .int x2), (3, .int x3), (4, .int x4), (5, .int x5), (6, .int x6), (7, .int x7), (8, .ref o8)] := hl
  rw [g_L_lets] at h
  refine lv_aload hx hb dL_lets_0 (lv_at hl 8 rfl) ?_
  refine lv_iconst (v := 0) hx hb dL_lets_2 (by decide) ?_
  refine lv_aload_n hx hb dL_lets_3 rfl (lv_at hl 0 rfl) ?_
  refine lv_iload_n hx hb dL_lets_4 rfl (lv_at hl 1 rfl) ?_
  refine lv_iload_n hx hb dL_lets_5 rfl (lv_at hl 2 rfl) ?_
  refine lv_iload_n hx hb dL_lets_6 rfl (lv_at hl 3 rfl) ?_
  refine lv_iload hx hb dL_lets_7 (lv_at hl 4 rfl) ?_
  refine lv_iload hx hb dL_lets_9 (lv_at hl 5 rfl) ?_
  refine lv_iload hx hb dL_lets_11 (lv_at hl 6 rfl) ?_
  refine lv_iload hx hb dL_lets_13 (lv_at hl 7 rfl) ?_
  refine x_VJ E F hw [.int x1, .int x2, .int x3, .int x4, .int x5, .int x6, .int x7] (k_X10_lets l hst D cy kc o0 x1 x2 x3 x4 x5 x6 x7 S h t_o0) t_o0 cf10 mk_X10_lets vk_X10_lets ml_L_35 ⟨by decide, by decide⟩ rfl hl.1 rfl (Nat.le_of_ble_eq_true rfl) dL_lets_15 ⟨(Nat.le_of_ble_eq_true rfl), (Nat.le_of_ble_eq_true rfl)⟩ (fun S1 H locs q9 ce h hw hG hce hcv hcl => ?_) (fun r S1 H locs h hw hG => ?_)
  · refine x_catch E F htab (by decide) (by decide) kk_L_13 hce hcv hcl ?_
    refine lv_astore (lv' := [(9, .ref q9), (0, .ref o0), (1, .int x1), (2, .int x2), (3, .int x3), (4, .int x4), (5, .int x5), (6, .int x6), (7, .int x7), (8, .ref o8)]) hx hb dL_lets_22 hl (by decide) rfl (fun ls hl => ?_)
    refine lv_iconst (v := 1) hx hb dL_lets_24 (by decide) ?_
    exact h_I E hr hlk F hA hw hG h (Nat.le_of_ble_eq_true rfl) (Nat.le_of_ble_eq_true rfl) dL_lets_25
  · obtain ⟨c1, h⟩ := h
    have t_o8 := hG.t t_o8
    refine b_j E F hw t_o8 c1 dL_lets_18 (fun H locs hw => ?_)
    refine lv_goto (tgt := 26) hx hb dL_lets_19 (by decide) ?_
    refine lv_iconst (v := 0) hx hb dL_lets_26 (by decide) ?_
    exact h_I E hr hlk F hA hw hG h (Nat.le_of_ble_eq_true rfl) (Nat.le_of_ble_eq_true rfl) dL_lets_27
theorem lk_L_present : LK yL_present cL_present 7 [(0, 13, 16, 13)] 6 := ⟨LW_t tb6 (k := 101) rfl rfl, LW_t tb6 (k := 100) rfl rfl, LW_t tb1 (k := 0) rfl rfl, by decide, by decide, by decide +kernel⟩
def gp_L_present (o5 : Nat) (post : Int32 → PS → Prop) : Option Int64 → PS → Prop
  | none, S1 => post 1 S1
  | some v, S1 => (ib 0 (sN S1 o5) = true) ∧ post 0 (pJ S1 o5 0 v)
def g_L_present (o0 : Nat) (x1 : Int32) (x2 : Int32) (x3 : Int32) (x4 : Int32) (o5 : Nat) (S : PS) (post : Int32 → PS → Prop) : Prop := g_X10_present o0 x1 x2 x3 x4 S (gp_L_present o5 post)
theorem k_L_present (l : Launch) (hst : l.stackTraces = false) (D : va_G) (cy : Nat → ClassId) (kc : Nat → Nat) (o0 : Nat) (x1 : Int32) (x2 : Int32) (x3 : Int32) (x4 : Int32) (o5 : Nat) (S : PS) {post : Int32 → PS → Prop} (h : g_L_present o0 x1 x2 x3 x4 o5 S post) (t_o0 : tD S o0 10) (t_o5 : tD S o5 14) : LI l D cy kc yL_present cL_present 7 [(0, 13, 16, 13)] (rmK 10 335 3 17) [.ref o0, .int x1, .int x2, .int x3, .int x4, .ref o5] S post := by
  refine L_body (Qc := fun sz => GI D cy S post sz) (by decide) (Nat.le_of_ble_eq_true rfl) ?_
  intro p e s m below meth c A ls args E hr hlk hA F hw hl htab
  have hx := E.1
  have hb := E.2.1
  have hl : lv_has ls 7 [(0, .ref o0), (1, .int x1), (2, .int x2), (3, .int x3), (4, .int x4), (5, .ref o5)] := hl
  rw [g_L_present] at h
  refine lv_aload hx hb dL_present_0 (lv_at hl 5 rfl) ?_
  refine lv_iconst (v := 0) hx hb dL_present_2 (by decide) ?_
  refine lv_aload_n hx hb dL_present_3 rfl (lv_at hl 0 rfl) ?_
  refine lv_iload_n hx hb dL_present_4 rfl (lv_at hl 1 rfl) ?_
  refine lv_iload_n hx hb dL_present_5 rfl (lv_at hl 2 rfl) ?_
  refine lv_iload_n hx hb dL_present_6 rfl (lv_at hl 3 rfl) ?_
  refine lv_iload hx hb dL_present_7 (lv_at hl 4 rfl) ?_
  refine x_VJ E F hw [.int x1, .int x2, .int x3, .int x4] (k_X10_present l hst D cy kc o0 x1 x2 x3 x4 S h t_o0) t_o0 cf10 mk_X10_present vk_X10_present ml_L_38 ⟨by decide, by decide⟩ rfl hl.1 rfl (Nat.le_of_ble_eq_true rfl) dL_present_9 ⟨(Nat.le_of_ble_eq_true rfl), (Nat.le_of_ble_eq_true rfl)⟩ (fun S1 H locs q9 ce h hw hG hce hcv hcl => ?_) (fun r S1 H locs h hw hG => ?_)
  · refine x_catch E F htab (by decide) (by decide) kk_L_13 hce hcv hcl ?_
    refine lv_astore (lv' := [(6, .ref q9), (0, .ref o0), (1, .int x1), (2, .int x2), (3, .int x3), (4, .int x4), (5, .ref o5)]) hx hb dL_present_16 hl (by decide) rfl (fun ls hl => ?_)
    refine lv_iconst (v := 1) hx hb dL_present_18 (by decide) ?_
    exact h_I E hr hlk F hA hw hG h (Nat.le_of_ble_eq_true rfl) (Nat.le_of_ble_eq_true rfl) dL_present_19
  · obtain ⟨c1, h⟩ := h
    have t_o5 := hG.t t_o5
    refine b_j E F hw t_o5 c1 dL_present_12 (fun H locs hw => ?_)
    refine lv_goto (tgt := 20) hx hb dL_present_13 (by decide) ?_
    refine lv_iconst (v := 0) hx hb dL_present_20 (by decide) ?_
    exact h_I E hr hlk F hA hw hG h (Nat.le_of_ble_eq_true rfl) (Nat.le_of_ble_eq_true rfl) dL_present_21
theorem lk_L_hopes : LK yL_hopes cL_hopes 6 [(0, 11, 14, 13)] 5 := ⟨LW_t tb6 (k := 143) rfl rfl, LW_t tb6 (k := 142) rfl rfl, LW_t tb1 (k := 0) rfl rfl, by decide, by decide, by decide +kernel⟩
def gp_L_hopes (o4 : Nat) (post : Int32 → PS → Prop) : Option Int64 → PS → Prop
  | none, S1 => post 1 S1
  | some v, S1 => (ib 0 (sN S1 o4) = true) ∧ post 0 (pJ S1 o4 0 v)
def g_L_hopes (o0 : Nat) (x1 : Int32) (x2 : Int32) (x3 : Int32) (o4 : Nat) (S : PS) (post : Int32 → PS → Prop) : Prop := g_X10_hopes o0 x1 x2 x3 S (gp_L_hopes o4 post)
theorem k_L_hopes (l : Launch) (hst : l.stackTraces = false) (D : va_G) (cy : Nat → ClassId) (kc : Nat → Nat) (o0 : Nat) (x1 : Int32) (x2 : Int32) (x3 : Int32) (o4 : Nat) (S : PS) {post : Int32 → PS → Prop} (h : g_L_hopes o0 x1 x2 x3 o4 S post) (t_o0 : tD S o0 10) (t_o4 : tD S o4 14) : LI l D cy kc yL_hopes cL_hopes 6 [(0, 11, 14, 13)] (rmK 10 294 1 6) [.ref o0, .int x1, .int x2, .int x3, .ref o4] S post := by
  refine L_body (Qc := fun sz => GI D cy S post sz) (by decide) (Nat.le_of_ble_eq_true rfl) ?_
  intro p e s m below meth c A ls args E hr hlk hA F hw hl htab
  have hx := E.1
  have hb := E.2.1
  have hl : lv_has ls 6 [(0, .ref o0), (1, .int x1), (2, .int x2), (3, .int x3), (4, .ref o4)] := hl
  rw [g_L_hopes] at h
  refine lv_aload hx hb dL_hopes_0 (lv_at hl 4 rfl) ?_
  refine lv_iconst (v := 0) hx hb dL_hopes_2 (by decide) ?_
  refine lv_aload_n hx hb dL_hopes_3 rfl (lv_at hl 0 rfl) ?_
  refine lv_iload_n hx hb dL_hopes_4 rfl (lv_at hl 1 rfl) ?_
  refine lv_iload_n hx hb dL_hopes_5 rfl (lv_at hl 2 rfl) ?_
  refine lv_iload_n hx hb dL_hopes_6 rfl (lv_at hl 3 rfl) ?_
  refine x_VJ E F hw [.int x1, .int x2, .int x3] (k_X10_hopes l hst D cy kc o0 x1 x2 x3 S h t_o0) t_o0 cf10 mk_X10_hopes vk_X10_hopes ml_L_41 ⟨by decide, by decide⟩ rfl hl.1 rfl (Nat.le_of_ble_eq_true rfl) dL_hopes_7 ⟨(Nat.le_of_ble_eq_true rfl), (Nat.le_of_ble_eq_true rfl)⟩ (fun S1 H locs q9 ce h hw hG hce hcv hcl => ?_) (fun r S1 H locs h hw hG => ?_)
  · refine x_catch E F htab (by decide) (by decide) kk_L_13 hce hcv hcl ?_
    refine lv_astore (lv' := [(5, .ref q9), (0, .ref o0), (1, .int x1), (2, .int x2), (3, .int x3), (4, .ref o4)]) hx hb dL_hopes_14 hl (by decide) rfl (fun ls hl => ?_)
    refine lv_iconst (v := 1) hx hb dL_hopes_16 (by decide) ?_
    exact h_I E hr hlk F hA hw hG h (Nat.le_of_ble_eq_true rfl) (Nat.le_of_ble_eq_true rfl) dL_hopes_17
  · obtain ⟨c1, h⟩ := h
    have t_o4 := hG.t t_o4
    refine b_j E F hw t_o4 c1 dL_hopes_10 (fun H locs hw => ?_)
    refine lv_goto (tgt := 18) hx hb dL_hopes_11 (by decide) ?_
    refine lv_iconst (v := 0) hx hb dL_hopes_18 (by decide) ?_
    exact h_I E hr hlk F hA hw hG h (Nat.le_of_ble_eq_true rfl) (Nat.le_of_ble_eq_true rfl) dL_hopes_19
theorem lk_L_vow : LK yL_vow cL_vow 6 [(0, 11, 14, 13)] 5 := ⟨LW_t tb6 (k := 157) rfl rfl, LW_t tb6 (k := 156) rfl rfl, LW_t tb1 (k := 0) rfl rfl, by decide, by decide, by decide +kernel⟩
def gp_L_vow (o4 : Nat) (post : Int32 → PS → Prop) : Option Int64 → PS → Prop
  | none, S1 => post 1 S1
  | some v, S1 => (ib 0 (sN S1 o4) = true) ∧ post 0 (pJ S1 o4 0 v)
def g_L_vow (o0 : Nat) (x1 : Int32) (x2 : Int32) (x3 : Int32) (o4 : Nat) (S : PS) (post : Int32 → PS → Prop) : Prop := g_X10_vow o0 x1 x2 x3 S (gp_L_vow o4 post)
theorem k_L_vow (l : Launch) (hst : l.stackTraces = false) (D : va_G) (cy : Nat → ClassId) (kc : Nat → Nat) (o0 : Nat) (x1 : Int32) (x2 : Int32) (x3 : Int32) (o4 : Nat) (S : PS) {post : Int32 → PS → Prop} (h : g_L_vow o0 x1 x2 x3 o4 S post) (t_o0 : tD S o0 10) (t_o4 : tD S o4 14) : LI l D cy kc yL_vow cL_vow 6 [(0, 11, 14, 13)] (rmK 10 346 1 6) [.ref o0, .int x1, .int x2, .int x3, .ref o4] S post := by
  refine L_body (Qc := fun sz => GI D cy S post sz) (by decide) (Nat.le_of_ble_eq_true rfl) ?_
  intro p e s m below meth c A ls args E hr hlk hA F hw hl htab
  have hx := E.1
  have hb := E.2.1
  have hl : lv_has ls 6 [(0, .ref o0), (1, .int x1), (2, .int x2), (3, .int x3), (4, .ref o4)] := hl
  rw [g_L_vow] at h
  refine lv_aload hx hb dL_vow_0 (lv_at hl 4 rfl) ?_
  refine lv_iconst (v := 0) hx hb dL_vow_2 (by decide) ?_
  refine lv_aload_n hx hb dL_vow_3 rfl (lv_at hl 0 rfl) ?_
  refine lv_iload_n hx hb dL_vow_4 rfl (lv_at hl 1 rfl) ?_
  refine lv_iload_n hx hb dL_vow_5 rfl (lv_at hl 2 rfl) ?_
  refine lv_iload_n hx hb dL_vow_6 rfl (lv_at hl 3 rfl) ?_
  refine x_VJ E F hw [.int x1, .int x2, .int x3] (k_X10_vow l hst D cy kc o0 x1 x2 x3 S h t_o0) t_o0 cf10 mk_X10_vow vk_X10_vow ml_L_44 ⟨by decide, by decide⟩ rfl hl.1 rfl (Nat.le_of_ble_eq_true rfl) dL_vow_7 ⟨(Nat.le_of_ble_eq_true rfl), (Nat.le_of_ble_eq_true rfl)⟩ (fun S1 H locs q9 ce h hw hG hce hcv hcl => ?_) (fun r S1 H locs h hw hG => ?_)
  · refine x_catch E F htab (by decide) (by decide) kk_L_13 hce hcv hcl ?_
    refine lv_astore (lv' := [(5, .ref q9), (0, .ref o0), (1, .int x1), (2, .int x2), (3, .int x3), (4, .ref o4)]) hx hb dL_vow_14 hl (by decide) rfl (fun ls hl => ?_)
    refine lv_iconst (v := 1) hx hb dL_vow_16 (by decide) ?_
    exact h_I E hr hlk F hA hw hG h (Nat.le_of_ble_eq_true rfl) (Nat.le_of_ble_eq_true rfl) dL_vow_17
  · obtain ⟨c1, h⟩ := h
    have t_o4 := hG.t t_o4
    refine b_j E F hw t_o4 c1 dL_vow_10 (fun H locs hw => ?_)
    refine lv_goto (tgt := 18) hx hb dL_vow_11 (by decide) ?_
    refine lv_iconst (v := 0) hx hb dL_vow_18 (by decide) ?_
    exact h_I E hr hlk F hA hw hG h (Nat.le_of_ble_eq_true rfl) (Nat.le_of_ble_eq_true rfl) dL_vow_19
theorem lk_L_bind : LK yL_bind cL_bind 8 [(0, 15, 18, 13)] 7 := ⟨LW_t tb6 (k := 168) rfl rfl, LW_t tb6 (k := 167) rfl rfl, LW_t tb1 (k := 0) rfl rfl, by decide, by decide, by decide +kernel⟩
def gp_L_bind (o6 : Nat) (post : Int32 → PS → Prop) : Option Int64 → PS → Prop
  | none, S1 => post 1 S1
  | some v, S1 => (ib 0 (sN S1 o6) = true) ∧ post 0 (pJ S1 o6 0 v)
def g_L_bind (o0 : Nat) (x1 : Int32) (x2 : Int32) (x3 : Int32) (x4 : Int32) (x5 : Int32) (o6 : Nat) (S : PS) (post : Int32 → PS → Prop) : Prop := g_X10_bind o0 x1 x2 x3 x4 x5 S (gp_L_bind o6 post)
theorem k_L_bind (l : Launch) (hst : l.stackTraces = false) (D : va_G) (cy : Nat → ClassId) (kc : Nat → Nat) (o0 : Nat) (x1 : Int32) (x2 : Int32) (x3 : Int32) (x4 : Int32) (x5 : Int32) (o6 : Nat) (S : PS) {post : Int32 → PS → Prop} (h : g_L_bind o0 x1 x2 x3 x4 x5 o6 S post) (t_o0 : tD S o0 10) (t_o6 : tD S o6 14) : LI l D cy kc yL_bind cL_bind 8 [(0, 15, 18, 13)] (rmK 10 340 1 6) [.ref o0, .int x1, .int x2, .int x3, .int x4, .int x5, .ref o6] S post := by
  refine L_body (Qc := fun sz => GI D cy S post sz) (by decide) (Nat.le_of_ble_eq_true rfl) ?_
  intro p e s m below meth c A ls args E hr hlk hA F hw hl htab
  have hx := E.1
  have hb := E.2.1
  have hl : lv_has ls 8 [(0, .ref o0), (1, .int x1), (2, .int x2), (3, .int x3), (4, .int x4), (5, .int x5), (6, .ref o6)] := hl
  rw [g_L_bind] at h
  refine lv_aload hx hb dL_bind_0 (lv_at hl 6 rfl) ?_
  refine lv_iconst (v := 0) hx hb dL_bind_2 (by decide) ?_
  refine lv_aload_n hx hb dL_bind_3 rfl (lv_at hl 0 rfl) ?_
  refine lv_iload_n hx hb dL_bind_4 rfl (lv_at hl 1 rfl) ?_
  refine lv_iload_n hx hb dL_bind_5 rfl (lv_at hl 2 rfl) ?_
  refine lv_iload_n hx hb dL_bind_6 rfl (lv_at hl 3 rfl) ?_
  refine lv_iload hx hb dL_bind_7 (lv_at hl 4 rfl) ?_
  refine lv_iload hx hb dL_bind_9 (lv_at hl 5 rfl) ?_
  refine x_VJ E F hw [.int x1, .int x2, .int x3, .int x4, .int x5] (k_X10_bind l hst D cy kc o0 x1 x2 x3 x4 x5 S h t_o0) t_o0 cf10 mk_X10_bind vk_X10_bind ml_L_47 ⟨by decide, by decide⟩ rfl hl.1 rfl (Nat.le_of_ble_eq_true rfl) dL_bind_11 ⟨(Nat.le_of_ble_eq_true rfl), (Nat.le_of_ble_eq_true rfl)⟩ (fun S1 H locs q9 ce h hw hG hce hcv hcl => ?_) (fun r S1 H locs h hw hG => ?_)
  · refine x_catch E F htab (by decide) (by decide) kk_L_13 hce hcv hcl ?_
    refine lv_astore (lv' := [(7, .ref q9), (0, .ref o0), (1, .int x1), (2, .int x2), (3, .int x3), (4, .int x4), (5, .int x5), (6, .ref o6)]) hx hb dL_bind_18 hl (by decide) rfl (fun ls hl => ?_)
    refine lv_iconst (v := 1) hx hb dL_bind_20 (by decide) ?_
    exact h_I E hr hlk F hA hw hG h (Nat.le_of_ble_eq_true rfl) (Nat.le_of_ble_eq_true rfl) dL_bind_21
  · obtain ⟨c1, h⟩ := h
    have t_o6 := hG.t t_o6
    refine b_j E F hw t_o6 c1 dL_bind_14 (fun H locs hw => ?_)
    refine lv_goto (tgt := 22) hx hb dL_bind_15 (by decide) ?_
    refine lv_iconst (v := 0) hx hb dL_bind_22 (by decide) ?_
    exact h_I E hr hlk F hA hw hG h (Nat.le_of_ble_eq_true rfl) (Nat.le_of_ble_eq_true rfl) dL_bind_23
theorem lk_L_order : LK yL_order cL_order 9 [(0, 17, 20, 13)] 8 := ⟨LW_t tb6 (k := 175) rfl rfl, LW_t tb6 (k := 174) rfl rfl, LW_t tb1 (k := 0) rfl rfl, by decide, by decide, by decide +kernel⟩
def gp_L_order (o7 : Nat) (post : Int32 → PS → Prop) : Option Int64 → PS → Prop
  | none, S1 => post 1 S1
  | some v, S1 => (ib 0 (sN S1 o7) = true) ∧ post 0 (pJ S1 o7 0 v)
def g_L_order (o0 : Nat) (x1 : Int32) (x2 : Int32) (x3 : Int32) (x4 : Int32) (x5 : Int32) (x6 : Int32) (o7 : Nat) (S : PS) (post : Int32 → PS → Prop) : Prop := g_X10_order o0 x1 x2 x3 x4 x5 x6 S (gp_L_order o7 post)
theorem k_L_order (l : Launch) (hst : l.stackTraces = false) (D : va_G) (cy : Nat → ClassId) (kc : Nat → Nat) (o0 : Nat) (x1 : Int32) (x2 : Int32) (x3 : Int32) (x4 : Int32) (x5 : Int32) (x6 : Int32) (o7 : Nat) (S : PS) {post : Int32 → PS → Prop} (h : g_L_order o0 x1 x2 x3 x4 x5 x6 o7 S post) (t_o0 : tD S o0 10) (t_o7 : tD S o7 14) : LI l D cy kc yL_order cL_order 9 [(0, 17, 20, 13)] (rmK 10 343 2 12) [.ref o0, .int x1, .int x2, .int x3, .int x4, .int x5, .int x6, .ref o7] S post := by
  refine L_body (Qc := fun sz => GI D cy S post sz) (by decide) (Nat.le_of_ble_eq_true rfl) ?_
  intro p e s m below meth c A ls args E hr hlk hA F hw hl htab
  have hx := E.1
  have hb := E.2.1
  have hl : lv_has ls 9 [(0, .ref o0), (1, .int x1), (2, .int x2), (3, .int x3), (4, .int x4), (5, .int x5), (6, .int x6), (7, .ref o7)] := hl
  rw [g_L_order] at h
  refine lv_aload hx hb dL_order_0 (lv_at hl 7 rfl) ?_
  refine lv_iconst (v := 0) hx hb dL_order_2 (by decide) ?_
  refine lv_aload_n hx hb dL_order_3 rfl (lv_at hl 0 rfl) ?_
  refine lv_iload_n hx hb dL_order_4 rfl (lv_at hl 1 rfl) ?_
  refine lv_iload_n hx hb dL_order_5 rfl (lv_at hl 2 rfl) ?_
  refine lv_iload_n hx hb dL_order_6 rfl (lv_at hl 3 rfl) ?_
  refine lv_iload hx hb dL_order_7 (lv_at hl 4 rfl) ?_
  refine lv_iload hx hb dL_order_9 (lv_at hl 5 rfl) ?_
  refine lv_iload hx hb dL_order_11 (lv_at hl 6 rfl) ?_
  refine x_VJ E F hw [.int x1, .int x2, .int x3, .int x4, .int x5, .int x6] (k_X10_order l hst D cy kc o0 x1 x2 x3 x4 x5 x6 S h t_o0) t_o0 cf10 mk_X10_order vk_X10_order ml_L_50 ⟨by decide, by decide⟩ rfl hl.1 rfl (Nat.le_of_ble_eq_true rfl) dL_order_13 ⟨(Nat.le_of_ble_eq_true rfl), (Nat.le_of_ble_eq_true rfl)⟩ (fun S1 H locs q9 ce h hw hG hce hcv hcl => ?_) (fun r S1 H locs h hw hG => ?_)
  · refine x_catch E F htab (by decide) (by decide) kk_L_13 hce hcv hcl ?_
    refine lv_astore (lv' := [(8, .ref q9), (0, .ref o0), (1, .int x1), (2, .int x2), (3, .int x3), (4, .int x4), (5, .int x5), (6, .int x6), (7, .ref o7)]) hx hb dL_order_20 hl (by decide) rfl (fun ls hl => ?_)
    refine lv_iconst (v := 1) hx hb dL_order_22 (by decide) ?_
    exact h_I E hr hlk F hA hw hG h (Nat.le_of_ble_eq_true rfl) (Nat.le_of_ble_eq_true rfl) dL_order_23
  · obtain ⟨c1, h⟩ := h
    have t_o7 := hG.t t_o7
    refine b_j E F hw t_o7 c1 dL_order_16 (fun H locs hw => ?_)
    refine lv_goto (tgt := 24) hx hb dL_order_17 (by decide) ?_
    refine lv_iconst (v := 0) hx hb dL_order_24 (by decide) ?_
    exact h_I E hr hlk F hA hw hG h (Nat.le_of_ble_eq_true rfl) (Nat.le_of_ble_eq_true rfl) dL_order_25
theorem lk_L_century : LK yL_century cL_century 7 [(0, 14, 17, 13)] 6 := ⟨LW_t tb6 (k := 182) rfl rfl, LW_t tb6 (k := 181) rfl rfl, LW_t tb1 (k := 0) rfl rfl, by decide, by decide, by decide +kernel⟩
def gp_L_century (o5 : Nat) (post : Int32 → PS → Prop) : Option Int32 → PS → Prop
  | none, S1 => post 1 S1
  | some v, S1 => (ib 0 (sN S1 o5) = true) ∧ post 0 (pJ S1 o5 0 (Int32.toInt64 v))
def g_L_century (o0 : Nat) (x1 : Int32) (x2 : Int32) (x3 : Int32) (x4 : Int32) (o5 : Nat) (S : PS) (post : Int32 → PS → Prop) : Prop := g_X10_century o0 x1 x2 x3 x4 S (gp_L_century o5 post)
theorem k_L_century (l : Launch) (hst : l.stackTraces = false) (D : va_G) (cy : Nat → ClassId) (kc : Nat → Nat) (o0 : Nat) (x1 : Int32) (x2 : Int32) (x3 : Int32) (x4 : Int32) (o5 : Nat) (S : PS) {post : Int32 → PS → Prop} (h : g_L_century o0 x1 x2 x3 x4 o5 S post) (t_o0 : tD S o0 10) (t_o5 : tD S o5 14) : LI l D cy kc yL_century cL_century 7 [(0, 14, 17, 13)] (rmK 10 336 1 6) [.ref o0, .int x1, .int x2, .int x3, .int x4, .ref o5] S post := by
  refine L_body (Qc := fun sz => GI D cy S post sz) (by decide) (Nat.le_of_ble_eq_true rfl) ?_
  intro p e s m below meth c A ls args E hr hlk hA F hw hl htab
  have hx := E.1
  have hb := E.2.1
  have hl : lv_has ls 7 [(0, .ref o0), (1, .int x1), (2, .int x2), (3, .int x3), (4, .int x4), (5, .ref o5)] := hl
  rw [g_L_century] at h
  refine lv_aload hx hb dL_century_0 (lv_at hl 5 rfl) ?_
  refine lv_iconst (v := 0) hx hb dL_century_2 (by decide) ?_
  refine lv_aload_n hx hb dL_century_3 rfl (lv_at hl 0 rfl) ?_
  refine lv_iload_n hx hb dL_century_4 rfl (lv_at hl 1 rfl) ?_
  refine lv_iload_n hx hb dL_century_5 rfl (lv_at hl 2 rfl) ?_
  refine lv_iload_n hx hb dL_century_6 rfl (lv_at hl 3 rfl) ?_
  refine lv_iload hx hb dL_century_7 (lv_at hl 4 rfl) ?_
  refine x_VI E F hw [.int x1, .int x2, .int x3, .int x4] (k_X10_century l hst D cy kc o0 x1 x2 x3 x4 S h t_o0) t_o0 cf10 mk_X10_century vk_X10_century ml_L_54 ⟨by decide, by decide⟩ rfl hl.1 rfl (Nat.le_of_ble_eq_true rfl) dL_century_9 ⟨(Nat.le_of_ble_eq_true rfl), (Nat.le_of_ble_eq_true rfl)⟩ (fun S1 H locs q9 ce h hw hG hce hcv hcl => ?_) (fun r S1 H locs h hw hG => ?_)
  · refine x_catch E F htab (by decide) (by decide) kk_L_13 hce hcv hcl ?_
    refine lv_astore (lv' := [(6, .ref q9), (0, .ref o0), (1, .int x1), (2, .int x2), (3, .int x3), (4, .int x4), (5, .ref o5)]) hx hb dL_century_17 hl (by decide) rfl (fun ls hl => ?_)
    refine lv_iconst (v := 1) hx hb dL_century_19 (by decide) ?_
    exact h_I E hr hlk F hA hw hG h (Nat.le_of_ble_eq_true rfl) (Nat.le_of_ble_eq_true rfl) dL_century_20
  · obtain ⟨c1, h⟩ := h
    have t_o5 := hG.t t_o5
    refine lv_i2l hx hb dL_century_12 rfl ?_
    refine b_j E F hw t_o5 c1 dL_century_13 (fun H locs hw => ?_)
    refine lv_goto (tgt := 21) hx hb dL_century_14 (by decide) ?_
    refine lv_iconst (v := 0) hx hb dL_century_21 (by decide) ?_
    exact h_I E hr hlk F hA hw hG h (Nat.le_of_ble_eq_true rfl) (Nat.le_of_ble_eq_true rfl) dL_century_22
theorem lk_L_fares : LK yL_fares cL_fares 6 [(0, 12, 15, 13)] 5 := ⟨LW_t tb6 (k := 193) rfl rfl, LW_t tb6 (k := 192) rfl rfl, LW_t tb1 (k := 0) rfl rfl, by decide, by decide, by decide +kernel⟩
def gp_L_fares (o4 : Nat) (post : Int32 → PS → Prop) : Option Int32 → PS → Prop
  | none, S1 => post 1 S1
  | some v, S1 => (ib 0 (sN S1 o4) = true) ∧ post 0 (pJ S1 o4 0 (Int32.toInt64 v))
def g_L_fares (o0 : Nat) (x1 : Int32) (x2 : Int32) (x3 : Int32) (o4 : Nat) (S : PS) (post : Int32 → PS → Prop) : Prop := g_X10_fares o0 x1 x2 x3 S (gp_L_fares o4 post)
theorem k_L_fares (l : Launch) (hst : l.stackTraces = false) (D : va_G) (cy : Nat → ClassId) (kc : Nat → Nat) (o0 : Nat) (x1 : Int32) (x2 : Int32) (x3 : Int32) (o4 : Nat) (S : PS) {post : Int32 → PS → Prop} (h : g_L_fares o0 x1 x2 x3 o4 S post) (t_o0 : tD S o0 10) (t_o4 : tD S o4 14) : LI l D cy kc yL_fares cL_fares 6 [(0, 12, 15, 13)] (rmK 10 335 2 12) [.ref o0, .int x1, .int x2, .int x3, .ref o4] S post := by
  refine L_body (Qc := fun sz => GI D cy S post sz) (by decide) (Nat.le_of_ble_eq_true rfl) ?_
  intro p e s m below meth c A ls args E hr hlk hA F hw hl htab
  have hx := E.1
  have hb := E.2.1
  have hl : lv_has ls 6 [(0, .ref o0), (1, .int x1), (2, .int x2), (3, .int x3), (4, .ref o4)] := hl
  rw [g_L_fares] at h
  refine lv_aload hx hb dL_fares_0 (lv_at hl 4 rfl) ?_
  refine lv_iconst (v := 0) hx hb dL_fares_2 (by decide) ?_
  refine lv_aload_n hx hb dL_fares_3 rfl (lv_at hl 0 rfl) ?_
  refine lv_iload_n hx hb dL_fares_4 rfl (lv_at hl 1 rfl) ?_
  refine lv_iload_n hx hb dL_fares_5 rfl (lv_at hl 2 rfl) ?_
  refine lv_iload_n hx hb dL_fares_6 rfl (lv_at hl 3 rfl) ?_
  refine x_VI E F hw [.int x1, .int x2, .int x3] (k_X10_fares l hst D cy kc o0 x1 x2 x3 S h t_o0) t_o0 cf10 mk_X10_fares vk_X10_fares ml_L_57 ⟨by decide, by decide⟩ rfl hl.1 rfl (Nat.le_of_ble_eq_true rfl) dL_fares_7 ⟨(Nat.le_of_ble_eq_true rfl), (Nat.le_of_ble_eq_true rfl)⟩ (fun S1 H locs q9 ce h hw hG hce hcv hcl => ?_) (fun r S1 H locs h hw hG => ?_)
  · refine x_catch E F htab (by decide) (by decide) kk_L_13 hce hcv hcl ?_
    refine lv_astore (lv' := [(5, .ref q9), (0, .ref o0), (1, .int x1), (2, .int x2), (3, .int x3), (4, .ref o4)]) hx hb dL_fares_15 hl (by decide) rfl (fun ls hl => ?_)
    refine lv_iconst (v := 1) hx hb dL_fares_17 (by decide) ?_
    exact h_I E hr hlk F hA hw hG h (Nat.le_of_ble_eq_true rfl) (Nat.le_of_ble_eq_true rfl) dL_fares_18
  · obtain ⟨c1, h⟩ := h
    have t_o4 := hG.t t_o4
    refine lv_i2l hx hb dL_fares_10 rfl ?_
    refine b_j E F hw t_o4 c1 dL_fares_11 (fun H locs hw => ?_)
    refine lv_goto (tgt := 19) hx hb dL_fares_12 (by decide) ?_
    refine lv_iconst (v := 0) hx hb dL_fares_19 (by decide) ?_
    exact h_I E hr hlk F hA hw hG h (Nat.le_of_ble_eq_true rfl) (Nat.le_of_ble_eq_true rfl) dL_fares_20
theorem lk_L_told : LK yL_told cL_told 6 [(0, 12, 15, 13)] 5 := ⟨LW_t tb6 (k := 201) rfl rfl, LW_t tb6 (k := 200) rfl rfl, LW_t tb1 (k := 0) rfl rfl, by decide, by decide, by decide +kernel⟩
def gp_L_told (o4 : Nat) (post : Int32 → PS → Prop) : Option Int32 → PS → Prop
  | none, S1 => post 1 S1
  | some v, S1 => (ib 0 (sN S1 o4) = true) ∧ post 0 (pJ S1 o4 0 (Int32.toInt64 v))
def g_L_told (o0 : Nat) (x1 : Int32) (x2 : Int32) (x3 : Int32) (o4 : Nat) (S : PS) (post : Int32 → PS → Prop) : Prop := g_X10_told o0 x1 x2 x3 S (gp_L_told o4 post)
theorem k_L_told (l : Launch) (hst : l.stackTraces = false) (D : va_G) (cy : Nat → ClassId) (kc : Nat → Nat) (o0 : Nat) (x1 : Int32) (x2 : Int32) (x3 : Int32) (o4 : Nat) (S : PS) {post : Int32 → PS → Prop} (h : g_L_told o0 x1 x2 x3 o4 S post) (t_o0 : tD S o0 10) (t_o4 : tD S o4 14) : LI l D cy kc yL_told cL_told 6 [(0, 12, 15, 13)] (rmK 10 335 1 6) [.ref o0, .int x1, .int x2, .int x3, .ref o4] S post := by
  refine L_body (Qc := fun sz => GI D cy S post sz) (by decide) (Nat.le_of_ble_eq_true rfl) ?_
  intro p e s m below meth c A ls args E hr hlk hA F hw hl htab
  have hx := E.1
  have hb := E.2.1
  have hl : lv_has ls 6 [(0, .ref o0), (1, .int x1), (2, .int x2), (3, .int x3), (4, .ref o4)] := hl
  rw [g_L_told] at h
  refine lv_aload hx hb dL_told_0 (lv_at hl 4 rfl) ?_
  refine lv_iconst (v := 0) hx hb dL_told_2 (by decide) ?_
  refine lv_aload_n hx hb dL_told_3 rfl (lv_at hl 0 rfl) ?_
  refine lv_iload_n hx hb dL_told_4 rfl (lv_at hl 1 rfl) ?_
  refine lv_iload_n hx hb dL_told_5 rfl (lv_at hl 2 rfl) ?_
  refine lv_iload_n hx hb dL_told_6 rfl (lv_at hl 3 rfl) ?_
  refine x_VI E F hw [.int x1, .int x2, .int x3] (k_X10_told l hst D cy kc o0 x1 x2 x3 S h t_o0) t_o0 cf10 mk_X10_told vk_X10_told ml_L_61 ⟨by decide, by decide⟩ rfl hl.1 rfl (Nat.le_of_ble_eq_true rfl) dL_told_7 ⟨(Nat.le_of_ble_eq_true rfl), (Nat.le_of_ble_eq_true rfl)⟩ (fun S1 H locs q9 ce h hw hG hce hcv hcl => ?_) (fun r S1 H locs h hw hG => ?_)
  · refine x_catch E F htab (by decide) (by decide) kk_L_13 hce hcv hcl ?_
    refine lv_astore (lv' := [(5, .ref q9), (0, .ref o0), (1, .int x1), (2, .int x2), (3, .int x3), (4, .ref o4)]) hx hb dL_told_15 hl (by decide) rfl (fun ls hl => ?_)
    refine lv_iconst (v := 1) hx hb dL_told_17 (by decide) ?_
    exact h_I E hr hlk F hA hw hG h (Nat.le_of_ble_eq_true rfl) (Nat.le_of_ble_eq_true rfl) dL_told_18
  · obtain ⟨c1, h⟩ := h
    have t_o4 := hG.t t_o4
    refine lv_i2l hx hb dL_told_10 rfl ?_
    refine b_j E F hw t_o4 c1 dL_told_11 (fun H locs hw => ?_)
    refine lv_goto (tgt := 19) hx hb dL_told_12 (by decide) ?_
    refine lv_iconst (v := 0) hx hb dL_told_19 (by decide) ?_
    exact h_I E hr hlk F hA hw hG h (Nat.le_of_ble_eq_true rfl) (Nat.le_of_ble_eq_true rfl) dL_told_20
theorem lk_L_judged : LK yL_judged cL_judged 4 [(0, 8, 11, 13)] 3 := ⟨LW_t tb6 (k := 225) rfl rfl, LW_t tb6 (k := 224) rfl rfl, LW_t tb1 (k := 0) rfl rfl, by decide, by decide, by decide +kernel⟩
def gp_L_judged (o2 : Nat) (post : Int32 → PS → Prop) : Option Int64 → PS → Prop
  | none, S1 => post 1 S1
  | some v, S1 => (ib 0 (sN S1 o2) = true) ∧ post 0 (pJ S1 o2 0 v)
def g_L_judged (o0 : Nat) (x1 : Int32) (o2 : Nat) (S : PS) (post : Int32 → PS → Prop) : Prop := g_X10_judged o0 x1 S (gp_L_judged o2 post)
theorem k_L_judged (l : Launch) (hst : l.stackTraces = false) (D : va_G) (cy : Nat → ClassId) (kc : Nat → Nat) (o0 : Nat) (x1 : Int32) (o2 : Nat) (S : PS) {post : Int32 → PS → Prop} (h : g_L_judged o0 x1 o2 S post) (t_o0 : tD S o0 10) (t_o2 : tD S o2 14) : LI l D cy kc yL_judged cL_judged 4 [(0, 8, 11, 13)] (rmK 10 292 1 6) [.ref o0, .int x1, .ref o2] S post := by
  refine L_body (Qc := fun sz => GI D cy S post sz) (by decide) (Nat.le_of_ble_eq_true rfl) ?_
  intro p e s m below meth c A ls args E hr hlk hA F hw hl htab
  have hx := E.1
  have hb := E.2.1
  have hl : lv_has ls 4 [(0, .ref o0), (1, .int x1), (2, .ref o2)] := hl
  rw [g_L_judged] at h
  refine lv_aload_n hx hb dL_judged_0 rfl (lv_at hl 2 rfl) ?_
  refine lv_iconst (v := 0) hx hb dL_judged_1 (by decide) ?_
  refine lv_aload_n hx hb dL_judged_2 rfl (lv_at hl 0 rfl) ?_
  refine lv_iload_n hx hb dL_judged_3 rfl (lv_at hl 1 rfl) ?_
  refine x_VJ E F hw [.int x1] (k_X10_judged l hst D cy kc o0 x1 S h t_o0) t_o0 cf10 mk_X10_judged vk_X10_judged ml_L_64 ⟨by decide, by decide⟩ rfl hl.1 rfl (Nat.le_of_ble_eq_true rfl) dL_judged_4 ⟨(Nat.le_of_ble_eq_true rfl), (Nat.le_of_ble_eq_true rfl)⟩ (fun S1 H locs q9 ce h hw hG hce hcv hcl => ?_) (fun r S1 H locs h hw hG => ?_)
  · refine x_catch E F htab (by decide) (by decide) kk_L_13 hce hcv hcl ?_
    refine lv_astore_n (lv' := [(3, .ref q9), (0, .ref o0), (1, .int x1), (2, .ref o2)]) hx hb dL_judged_11 rfl hl (by decide) rfl (fun ls hl => ?_)
    refine lv_iconst (v := 1) hx hb dL_judged_12 (by decide) ?_
    exact h_I E hr hlk F hA hw hG h (Nat.le_of_ble_eq_true rfl) (Nat.le_of_ble_eq_true rfl) dL_judged_13
  · obtain ⟨c1, h⟩ := h
    have t_o2 := hG.t t_o2
    refine b_j E F hw t_o2 c1 dL_judged_7 (fun H locs hw => ?_)
    refine lv_goto (tgt := 14) hx hb dL_judged_8 (by decide) ?_
    refine lv_iconst (v := 0) hx hb dL_judged_14 (by decide) ?_
    exact h_I E hr hlk F hA hw hG h (Nat.le_of_ble_eq_true rfl) (Nat.le_of_ble_eq_true rfl) dL_judged_15
theorem lk_L_rowFares : LK yL_rowFares cL_rowFares 5 [(0, 10, 13, 13)] 4 := ⟨LW_t tb7 (k := 36) rfl rfl, LW_t tb7 (k := 35) rfl rfl, LW_t tb1 (k := 0) rfl rfl, by decide, by decide, by decide +kernel⟩
def gp_L_rowFares (o3 : Nat) (post : Int32 → PS → Prop) : Option Int32 → PS → Prop
  | none, S1 => post 1 S1
  | some v, S1 => (ib 0 (sN S1 o3) = true) ∧ post 0 (pJ S1 o3 0 (Int32.toInt64 v))
def g_L_rowFares (o0 : Nat) (x1 : Int32) (x2 : Int32) (o3 : Nat) (S : PS) (post : Int32 → PS → Prop) : Prop := g_X10_rowFares o0 x1 x2 S (gp_L_rowFares o3 post)
theorem k_L_rowFares (l : Launch) (hst : l.stackTraces = false) (D : va_G) (cy : Nat → ClassId) (kc : Nat → Nat) (o0 : Nat) (x1 : Int32) (x2 : Int32) (o3 : Nat) (S : PS) {post : Int32 → PS → Prop} (h : g_L_rowFares o0 x1 x2 o3 S post) (t_o0 : tD S o0 10) (t_o3 : tD S o3 14) : LI l D cy kc yL_rowFares cL_rowFares 5 [(0, 10, 13, 13)] (rmK 10 293 1 6) [.ref o0, .int x1, .int x2, .ref o3] S post := by
  refine L_body (Qc := fun sz => GI D cy S post sz) (by decide) (Nat.le_of_ble_eq_true rfl) ?_
  intro p e s m below meth c A ls args E hr hlk hA F hw hl htab
  have hx := E.1
  have hb := E.2.1
  have hl : lv_has ls 5 [(0, .ref o0), (1, .int x1), (2, .int x2), (3, .ref o3)] := hl
  rw [g_L_rowFares] at h
  refine lv_aload_n hx hb dL_rowFares_0 rfl (lv_at hl 3 rfl) ?_
  refine lv_iconst (v := 0) hx hb dL_rowFares_1 (by decide) ?_
  refine lv_aload_n hx hb dL_rowFares_2 rfl (lv_at hl 0 rfl) ?_
  refine lv_iload_n hx hb dL_rowFares_3 rfl (lv_at hl 1 rfl) ?_
  refine lv_iload_n hx hb dL_rowFares_4 rfl (lv_at hl 2 rfl) ?_
  refine x_VI E F hw [.int x1, .int x2] (k_X10_rowFares l hst D cy kc o0 x1 x2 S h t_o0) t_o0 cf10 mk_X10_rowFares vk_X10_rowFares ml_L_68 ⟨by decide, by decide⟩ rfl hl.1 rfl (Nat.le_of_ble_eq_true rfl) dL_rowFares_5 ⟨(Nat.le_of_ble_eq_true rfl), (Nat.le_of_ble_eq_true rfl)⟩ (fun S1 H locs q9 ce h hw hG hce hcv hcl => ?_) (fun r S1 H locs h hw hG => ?_)
  · refine x_catch E F htab (by decide) (by decide) kk_L_13 hce hcv hcl ?_
    refine lv_astore (lv' := [(4, .ref q9), (0, .ref o0), (1, .int x1), (2, .int x2), (3, .ref o3)]) hx hb dL_rowFares_13 hl (by decide) rfl (fun ls hl => ?_)
    refine lv_iconst (v := 1) hx hb dL_rowFares_15 (by decide) ?_
    exact h_I E hr hlk F hA hw hG h (Nat.le_of_ble_eq_true rfl) (Nat.le_of_ble_eq_true rfl) dL_rowFares_16
  · obtain ⟨c1, h⟩ := h
    have t_o3 := hG.t t_o3
    refine lv_i2l hx hb dL_rowFares_8 rfl ?_
    refine b_j E F hw t_o3 c1 dL_rowFares_9 (fun H locs hw => ?_)
    refine lv_goto (tgt := 17) hx hb dL_rowFares_10 (by decide) ?_
    refine lv_iconst (v := 0) hx hb dL_rowFares_17 (by decide) ?_
    exact h_I E hr hlk F hA hw hG h (Nat.le_of_ble_eq_true rfl) (Nat.le_of_ble_eq_true rfl) dL_rowFares_18
theorem lk_L_when : LK yL_when cL_when 5 [(0, 9, 12, 13)] 4 := ⟨LW_t tb7 (k := 59) rfl rfl, LW_t tb7 (k := 58) rfl rfl, LW_t tb1 (k := 0) rfl rfl, by decide, by decide, by decide +kernel⟩
def gp_L_when (o3 : Nat) (post : Int32 → PS → Prop) : Option Int64 → PS → Prop
  | none, S1 => post 1 S1
  | some v, S1 => (ib 0 (sN S1 o3) = true) ∧ post 0 (pJ S1 o3 0 v)
def g_L_when (o0 : Nat) (x1 : Int32) (x2 : Int32) (o3 : Nat) (S : PS) (post : Int32 → PS → Prop) : Prop := g_X10_when o0 x1 x2 S (gp_L_when o3 post)
theorem k_L_when (l : Launch) (hst : l.stackTraces = false) (D : va_G) (cy : Nat → ClassId) (kc : Nat → Nat) (o0 : Nat) (x1 : Int32) (x2 : Int32) (o3 : Nat) (S : PS) {post : Int32 → PS → Prop} (h : g_L_when o0 x1 x2 o3 S post) (t_o0 : tD S o0 10) (t_o3 : tD S o3 14) : LI l D cy kc yL_when cL_when 5 [(0, 9, 12, 13)] (rmK 10 299 2 12) [.ref o0, .int x1, .int x2, .ref o3] S post := by
  refine L_body (Qc := fun sz => GI D cy S post sz) (by decide) (Nat.le_of_ble_eq_true rfl) ?_
  intro p e s m below meth c A ls args E hr hlk hA F hw hl htab
  have hx := E.1
  have hb := E.2.1
  have hl : lv_has ls 5 [(0, .ref o0), (1, .int x1), (2, .int x2), (3, .ref o3)] := hl
  rw [g_L_when] at h
  refine lv_aload_n hx hb dL_when_0 rfl (lv_at hl 3 rfl) ?_
  refine lv_iconst (v := 0) hx hb dL_when_1 (by decide) ?_
  refine lv_aload_n hx hb dL_when_2 rfl (lv_at hl 0 rfl) ?_
  refine lv_iload_n hx hb dL_when_3 rfl (lv_at hl 1 rfl) ?_
  refine lv_iload_n hx hb dL_when_4 rfl (lv_at hl 2 rfl) ?_
  refine x_VJ E F hw [.int x1, .int x2] (k_X10_when l hst D cy kc o0 x1 x2 S h t_o0) t_o0 cf10 mk_X10_when vk_X10_when ml_L_72 ⟨by decide, by decide⟩ rfl hl.1 rfl (Nat.le_of_ble_eq_true rfl) dL_when_5 ⟨(Nat.le_of_ble_eq_true rfl), (Nat.le_of_ble_eq_true rfl)⟩ (fun S1 H locs q9 ce h hw hG hce hcv hcl => ?_) (fun r S1 H locs h hw hG => ?_)
  · refine x_catch E F htab (by decide) (by decide) kk_L_13 hce hcv hcl ?_
    refine lv_astore (lv' := [(4, .ref q9), (0, .ref o0), (1, .int x1), (2, .int x2), (3, .ref o3)]) hx hb dL_when_12 hl (by decide) rfl (fun ls hl => ?_)
    refine lv_iconst (v := 1) hx hb dL_when_14 (by decide) ?_
    exact h_I E hr hlk F hA hw hG h (Nat.le_of_ble_eq_true rfl) (Nat.le_of_ble_eq_true rfl) dL_when_15
  · obtain ⟨c1, h⟩ := h
    have t_o3 := hG.t t_o3
    refine b_j E F hw t_o3 c1 dL_when_8 (fun H locs hw => ?_)
    refine lv_goto (tgt := 16) hx hb dL_when_9 (by decide) ?_
    refine lv_iconst (v := 0) hx hb dL_when_16 (by decide) ?_
    exact h_I E hr hlk F hA hw hG h (Nat.le_of_ble_eq_true rfl) (Nat.le_of_ble_eq_true rfl) dL_when_17
