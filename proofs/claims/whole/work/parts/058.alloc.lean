def nw (S : PS) (q k n : Nat) : PS := (S.1 ++ [q], va_up S.2.1 q k, va_up S.2.2.1 q n, va_up S.2.2.2.1 q (fun _ => 0), va_up S.2.2.2.2.1 q (fun _ => 0), va_up S.2.2.2.2.2 q (fun _ => none))
theorem nw_ne {cy : Nat → ClassId} {S : PS} {q k n b : Nat} (h : b ≠ q) : wE cy (nw S q k n) b = wE cy S b := wE_congr (va_up_ne _ _ h) (va_up_ne _ _ h) (va_up_ne _ _ h) (va_up_ne _ _ h) (va_up_ne _ _ h)
theorem nw_K {S : PS} {q k n : Nat} : sK (nw S q k n) q = k := by simp [sK, nw, va_up]
theorem nw_N {S : PS} {q k n : Nat} : sN (nw S q k n) q = n := by simp [sN, nw, va_up]
theorem nw_t {S : PS} {q k n : Nat} : tD (nw S q k n) q k := ⟨by simp [nw], nw_K⟩
theorem nw_Gr {S : PS} {q k n : Nat} (hq : q ∉ S.1) : Gr S (nw S q k n) := fun a ha => ⟨by simp [nw, ha], by
  have h : a ≠ q := fun e => hq (e ▸ ha)
  show va_up S.2.1 q k a = S.2.1 a
  rw [va_up_ne _ _ h]⟩
theorem nw_PW {cy : Nat → ClassId} {S : PS} {q k n : Nat} {e : va_E} (hq : q ∉ S.1) (he : wE cy (nw S q k n) q = e) : PW cy S ++ [(q, e)] = PW cy (nw S q k n) := by
  unfold PW
  rw [va_pl_push hq]
  show va_pl (S.1 ++ [q]) _ = va_pl (S.1 ++ [q]) _
  refine va_pl_congr (fun b => ?_)
  by_cases h : b = q
  · subst h; rw [he]; simp [va_up]
  · rw [va_up_ne _ _ h, nw_ne h]
theorem PW_notin {A : Nat → Prop} {cy : Nat → ClassId} {S : PS} {q : Nat} {e : va_E} (h : va_D A (PW cy S ++ [(q, e)])) : q ∉ S.1 := by
  intro hq
  obtain ⟨k, hk⟩ := PW_get (cy := cy) hq
  have hl : k < (PW cy S).length := (List.getElem?_eq_some_iff.mp hk).1
  have h1 : (PW cy S ++ [(q, e)])[k]? = some (q, wE cy S q) := by rw [List.getElem?_append_left hl]; exact hk
  have h2 : (PW cy S ++ [(q, e)])[(PW cy S).length]? = some (q, e) := by simp
  have := h.1 _ _ _ _ h1 h2 rfl
  omega
def f0 (ci : Nat) : List Value := (List.range (ftys.getD ci []).length).map (fun k => match fty ci k with
  | 1 => Value.long 0
  | 2 => Value.null
  | _ => Value.int 0)
theorem nw_fl {S : PS} {q ci n k : Nat} : fl (nw S q k n) ci q = f0 ci := by
  unfold fl f0
  refine List.map_congr_left (fun j _ => ?_)
  have h1 : sJ (nw S q k n) q j = 0 := by simp [sJ, nw, va_up]
  have h2 : sR (nw S q k n) q j = none := by simp [sR, nw, va_up]
  have h3 : sI (nw S q k n) q j = 0 := by simp [sI, nw, va_up]
  unfold fv
  rw [h1, h2, h3]
  rfl
theorem df0 : ∀ j, j < 9 → defaultValue (tyX0 j) = vp_V (f0 0) j := by decide +kernel
theorem iz0 : Cond.instantiable RX0 9 ∈ LW := LW_t tb2 (k := 103) rfl rfl
theorem ic0 : Cond.initialized RX0 ∈ LW := LW_t tb1 (k := 9) rfl rfl
theorem df1 : ∀ j, j < 1 → defaultValue (tyX1 j) = vp_V (f0 1) j := by decide +kernel
theorem iz1 : Cond.instantiable RX1 1 ∈ LW := LW_t tb3 (k := 212) rfl rfl
theorem ic1 : Cond.initialized RX1 ∈ LW := LW_t tb1 (k := 18) rfl rfl
theorem df2 : ∀ j, j < 6 → defaultValue (tyX2 j) = vp_V (f0 2) j := by decide +kernel
theorem iz2 : Cond.instantiable RX2 6 ∈ LW := LW_t tb2 (k := 142) rfl rfl
theorem ic2 : Cond.initialized RX2 ∈ LW := LW_t tb1 (k := 10) rfl rfl
theorem df3 : ∀ j, j < 5 → defaultValue (tyX3 j) = vp_V (f0 3) j := by decide +kernel
theorem iz3 : Cond.instantiable RX3 5 ∈ LW := LW_t tb2 (k := 81) rfl rfl
theorem ic3 : Cond.initialized RX3 ∈ LW := LW_t tb1 (k := 8) rfl rfl
theorem df4 : ∀ j, j < 7 → defaultValue (tyX4 j) = vp_V (f0 4) j := by decide +kernel
theorem iz4 : Cond.instantiable RX4 7 ∈ LW := LW_t tb2 (k := 53) rfl rfl
theorem ic4 : Cond.initialized RX4 ∈ LW := LW_t tb1 (k := 7) rfl rfl
theorem df5 : ∀ j, j < 5 → defaultValue (tyX5 j) = vp_V (f0 5) j := by decide +kernel
theorem iz5 : Cond.instantiable RX5 5 ∈ LW := LW_t tb6 (k := 108) rfl rfl
theorem ic5 : Cond.initialized RX5 ∈ LW := LW_t tb1 (k := 24) rfl rfl
theorem df6 : ∀ j, j < 13 → defaultValue (tyX6 j) = vp_V (f0 6) j := by decide +kernel
theorem iz6 : Cond.instantiable RX6 13 ∈ LW := LW_t tb1 (k := 34) rfl rfl
theorem ic6 : Cond.initialized RX6 ∈ LW := LW_t tb1 (k := 2) rfl rfl
theorem df7 : ∀ j, j < 6 → defaultValue (tyX7 j) = vp_V (f0 7) j := by decide +kernel
theorem iz7 : Cond.instantiable RX7 6 ∈ LW := LW_t tb1 (k := 148) rfl rfl
theorem ic7 : Cond.initialized RX7 ∈ LW := LW_t tb1 (k := 5) rfl rfl
theorem df8 : ∀ j, j < 13 → defaultValue (tyX8 j) = vp_V (f0 8) j := by decide +kernel
theorem iz8 : Cond.instantiable RX8 13 ∈ LW := LW_t tb1 (k := 218) rfl rfl
theorem ic8 : Cond.initialized RX8 ∈ LW := LW_t tb1 (k := 6) rfl rfl
theorem df9 : ∀ j, j < 17 → defaultValue (tyX9 j) = vp_V (f0 9) j := by decide +kernel
theorem iz9 : Cond.instantiable RX9 17 ∈ LW := LW_t tb1 (k := 40) rfl rfl
theorem ic9 : Cond.initialized RX9 ∈ LW := LW_t tb1 (k := 3) rfl rfl
theorem df10 : ∀ j, j < 11 → defaultValue (tyX10 j) = vp_V (f0 10) j := by decide +kernel
theorem iz10 : Cond.instantiable RX10 11 ∈ LW := LW_t tb1 (k := 26) rfl rfl
theorem ic10 : Cond.initialized RX10 ∈ LW := LW_t tb1 (k := 1) rfl rfl
theorem df11 : ∀ j, j < 51 → defaultValue (tyX11 j) = vp_V (f0 11) j := by decide +kernel
theorem iz11 : Cond.instantiable RX11 51 ∈ LW := LW_t tb7 (k := 75) rfl rfl
theorem ic11 : Cond.initialized RX11 ∈ LW := LW_t tb1 (k := 11) rfl rfl
theorem ay_char : Cond.arrayClass (newarray.typeOf .char) ∈ LW := LW_t tb1 (k := 144) rfl rfl
theorem ay_int : Cond.arrayClass (newarray.typeOf .int) ∈ LW := LW_t tb1 (k := 145) rfl rfl
theorem ay_long : Cond.arrayClass (newarray.typeOf .long) ∈ LW := LW_t tb1 (k := 176) rfl rfl
theorem ay_boolean : Cond.arrayClass (newarray.typeOf .boolean) ∈ LW := LW_t tb1 (k := 146) rfl rfl
theorem oi_X10_1 : Cond.methodLink RX10 1 Lib.objectInit ∈ LW := LW_t tb1 (k := 30) rfl rfl
theorem oi_X6_3 : Cond.methodLink RX6 3 Lib.objectInit ∈ LW := LW_t tb1 (k := 38) rfl rfl
theorem oi_X9_3 : Cond.methodLink RX9 3 Lib.objectInit ∈ LW := LW_t tb1 (k := 44) rfl rfl
theorem oi_X7_3 : Cond.methodLink RX7 3 Lib.objectInit ∈ LW := LW_t tb1 (k := 152) rfl rfl
theorem oi_X8_3 : Cond.methodLink RX8 3 Lib.objectInit ∈ LW := LW_t tb1 (k := 224) rfl rfl
theorem oi_X4_3 : Cond.methodLink RX4 3 Lib.objectInit ∈ LW := LW_t tb2 (k := 57) rfl rfl
theorem oi_X3_3 : Cond.methodLink RX3 3 Lib.objectInit ∈ LW := LW_t tb2 (k := 85) rfl rfl
theorem oi_X0_3 : Cond.methodLink RX0 3 Lib.objectInit ∈ LW := LW_t tb2 (k := 107) rfl rfl
theorem oi_X2_3 : Cond.methodLink RX2 3 Lib.objectInit ∈ LW := LW_t tb2 (k := 146) rfl rfl
theorem oi_X1_1 : Cond.methodLink RX1 1 Lib.objectInit ∈ LW := LW_t tb3 (k := 230) rfl rfl
theorem oi_X5_1 : Cond.methodLink RX5 1 Lib.objectInit ∈ LW := LW_t tb6 (k := 112) rfl rfl
theorem oi_X11_18 : Cond.methodLink RX11 18 Lib.objectInit ∈ LW := LW_t tb7 (k := 81) rfl rfl
theorem oi_i : Cond.instanceMethod Lib.objectInit ∈ LW := LW_t tb1 (k := 31) rfl rfl
theorem oi_c : Cond.code Lib.objectInit ⟨#[0xb1]⟩ 1 none ∈ LW := LW_t tb1 (k := 32) rfl rfl
theorem va_RA_eq {U : State} {a b : ClassId} {ty : FieldType} (h : va_RA U a ty) (k : va_RA U b ty) : a = b := by
  unfold va_RA at h k
  split at h
  · obtain ⟨-, -, -, -, -, h⟩ := h
    obtain ⟨-, -, -, -, -, k⟩ := k
    exact Option.some.inj (h.symm.trans k)
  · split at k
    · obtain ⟨-, -, -, -, -, k⟩ := k
      exact Option.some.inj (h.symm.trans k)
    · exact Option.some.inj (h.symm.trans k)
section AllocRows
variable {p : Program} {l : Launch} {e : Env} {R : Room} {s : State} {m : MethodId} {args : Array Value} {below : List Frame} {meth : Method} {c : Code} {H : Heap} {locs : List Loc} {cells slots mc ms : Nat} {Q : State → Prop} {cc : ByteArray} {pc nL : Nat} {ls : Array Slot} {rest : List Value} {own : String} {D : va_G} {cy : Nat → ClassId} {kc : Nat → Nat} {A : Nat → Prop} {S S0 : PS}

theorem n_o (E : CallFix p m c cc nL s args LW own) (F : Fx D cy kc A s) (hw : Wd D cy A s H locs S) {C : String} {T : u_T} {N ci index : Nat} {ty0 : Nat → FieldType} (hc : CF ci C T N ty0) (hcl : Cond.classLink own index C ∈ LW) (hin : Cond.instantiable C N ∈ LW) (hini : Cond.initialized C ∈ LW) (hfs : ∀ j, j < N → defaultValue (ty0 j) = vp_V (f0 ci) j) (hcells : cells + 1 ≤ R.cells) (hslots : slots + N ≤ R.slots) (hdg : decode cc pc = .ok (.new index, 3))
    (kk : ∀ (q : Nat) (H : Heap) (S1 : PS), S1 = nw S q ci 0 → q ∉ S.1 → Wd D cy A s H locs S1 → tD S1 q ci → Gr S S1 → W p l e R s m args below meth c H locs (cells + 1) (slots + N) Q (F0 m (pc + 3) ls (.ref q :: rest))) : W p l e R s m args below meth c H locs cells slots Q (F0 m pc ls rest) := by
  refine va_new E.1 E.2.1 E.2.2.2.2 hc.2.2.2.1 ty0 hc.2.2.2.2.1 E.2.2.2.1 (E.2.2.2.2 _ hcl) (E.2.2.2.2 _ hin) (E.2.2.2.2 _ hini) F.1 hw.1 hw.2.1 hw.2.2 F.2.1 hc.2.1 (fs := f0 ci) hfs hcells hslots hdg (fun q H1 a1 a2 a3 => ?_)
  have hq := PW_notin a2
  have hp : PW cy S ++ [(q, .inr (ci, f0 ci))] = PW cy (nw S q ci 0) := nw_PW hq (by rw [wE_o (S := nw S q ci 0) nw_K hc.1, nw_fl])
  rw [hp] at a1 a2
  exact kk q H1 _ rfl hq ⟨a1, a2, a3⟩ nw_t (nw_Gr hq)
theorem n_char (E : CallFix p m c cc nL s args LW own) (F : Fx D cy kc A s) (hw : Wd D cy A s H locs S) {n : Int32} {N : Nat} (hn : ¬ n < 0) (hN : n.toNatClampNeg = N) (hby : N * componentBytes .char ≤ 536870912) (hcells : cells + 1 ≤ R.cells) (hslots : slots + N ≤ R.slots) (hdg : decode cc pc = .ok (.newarray .char, 2))
    (kk : ∀ (q : Nat) (H : Heap) (S1 : PS), S1 = nw S q 12 N → q ∉ S.1 → Wd D cy A s H locs S1 → tD S1 q 12 → Gr S S1 → W p l e R s m args below meth c H locs (cells + 1) (slots + N) Q (F0 m (pc + 2) ls (.ref q :: rest))) : W p l e R s m args below meth c H locs cells slots Q (F0 m pc ls (.int n :: rest)) := by
  refine va_newa (a0 := (N, .inl (fun _ => 0))) E.1 E.2.1 (E.2.2.2.2 _ ay_char) (ty := .char) rfl F.1 hw.1 hw.2.1 hw.2.2 F.2.1 (fun cA => by first | rfl | exact vp_cell_i | exact vp_cell_l) hn hN hby hcells hslots hdg (fun q cA H1 a0 a1 a2 a3 => ?_)
  have hcA : cA = cy 0 := va_RA_eq (a0.2 6 _ rfl).2 (F.1.2 0 _ rfl).2
  subst hcA
  have hq := PW_notin a2
  have hp : PW cy S ++ [(q, .inl (cy 0, N, .inl (fun _ => 0)))] = PW cy (nw S q 12 N) := nw_PW hq (by rw [wE_c (S := nw S q 12 N) nw_K, nw_N]; simp [nw, va_up])
  rw [hp] at a1 a2
  exact kk q H1 _ rfl hq ⟨a1, a2, a3⟩ nw_t (nw_Gr hq)
theorem n_int (E : CallFix p m c cc nL s args LW own) (F : Fx D cy kc A s) (hw : Wd D cy A s H locs S) {n : Int32} {N : Nat} (hn : ¬ n < 0) (hN : n.toNatClampNeg = N) (hby : N * componentBytes .int ≤ 536870912) (hcells : cells + 1 ≤ R.cells) (hslots : slots + N ≤ R.slots) (hdg : decode cc pc = .ok (.newarray .int, 2))
    (kk : ∀ (q : Nat) (H : Heap) (S1 : PS), S1 = nw S q 13 N → q ∉ S.1 → Wd D cy A s H locs S1 → tD S1 q 13 → Gr S S1 → W p l e R s m args below meth c H locs (cells + 1) (slots + N) Q (F0 m (pc + 2) ls (.ref q :: rest))) : W p l e R s m args below meth c H locs cells slots Q (F0 m pc ls (.int n :: rest)) := by
  refine va_newa (a0 := (N, .inl (fun _ => 0))) E.1 E.2.1 (E.2.2.2.2 _ ay_int) (ty := .int) rfl F.1 hw.1 hw.2.1 hw.2.2 F.2.1 (fun cA => by first | rfl | exact vp_cell_i | exact vp_cell_l) hn hN hby hcells hslots hdg (fun q cA H1 a0 a1 a2 a3 => ?_)
  have hcA : cA = cy 1 := va_RA_eq (a0.2 6 _ rfl).2 (F.1.2 1 _ rfl).2
  subst hcA
  have hq := PW_notin a2
  have hp : PW cy S ++ [(q, .inl (cy 1, N, .inl (fun _ => 0)))] = PW cy (nw S q 13 N) := nw_PW hq (by rw [wE_i (S := nw S q 13 N) nw_K, nw_N]; simp [nw, va_up])
  rw [hp] at a1 a2
  exact kk q H1 _ rfl hq ⟨a1, a2, a3⟩ nw_t (nw_Gr hq)
theorem n_long (E : CallFix p m c cc nL s args LW own) (F : Fx D cy kc A s) (hw : Wd D cy A s H locs S) {n : Int32} {N : Nat} (hn : ¬ n < 0) (hN : n.toNatClampNeg = N) (hby : N * componentBytes .long ≤ 536870912) (hcells : cells + 1 ≤ R.cells) (hslots : slots + N ≤ R.slots) (hdg : decode cc pc = .ok (.newarray .long, 2))
    (kk : ∀ (q : Nat) (H : Heap) (S1 : PS), S1 = nw S q 14 N → q ∉ S.1 → Wd D cy A s H locs S1 → tD S1 q 14 → Gr S S1 → W p l e R s m args below meth c H locs (cells + 1) (slots + N) Q (F0 m (pc + 2) ls (.ref q :: rest))) : W p l e R s m args below meth c H locs cells slots Q (F0 m pc ls (.int n :: rest)) := by
  refine va_newa (a0 := (N, .inr (.inl (fun _ => 0)))) E.1 E.2.1 (E.2.2.2.2 _ ay_long) (ty := .long) rfl F.1 hw.1 hw.2.1 hw.2.2 F.2.1 (fun cA => by first | rfl | exact vp_cell_i | exact vp_cell_l) hn hN hby hcells hslots hdg (fun q cA H1 a0 a1 a2 a3 => ?_)
  have hcA : cA = cy 2 := va_RA_eq (a0.2 6 _ rfl).2 (F.1.2 2 _ rfl).2
  subst hcA
  have hq := PW_notin a2
  have hp : PW cy S ++ [(q, .inl (cy 2, N, .inr (.inl (fun _ => 0))))] = PW cy (nw S q 14 N) := nw_PW hq (by rw [wE_j (S := nw S q 14 N) nw_K, nw_N]; simp [nw, va_up])
  rw [hp] at a1 a2
  exact kk q H1 _ rfl hq ⟨a1, a2, a3⟩ nw_t (nw_Gr hq)
theorem n_boolean (E : CallFix p m c cc nL s args LW own) (F : Fx D cy kc A s) (hw : Wd D cy A s H locs S) {n : Int32} {N : Nat} (hn : ¬ n < 0) (hN : n.toNatClampNeg = N) (hby : N * componentBytes .boolean ≤ 536870912) (hcells : cells + 1 ≤ R.cells) (hslots : slots + N ≤ R.slots) (hdg : decode cc pc = .ok (.newarray .boolean, 2))
    (kk : ∀ (q : Nat) (H : Heap) (S1 : PS), S1 = nw S q 15 N → q ∉ S.1 → Wd D cy A s H locs S1 → tD S1 q 15 → Gr S S1 → W p l e R s m args below meth c H locs (cells + 1) (slots + N) Q (F0 m (pc + 2) ls (.ref q :: rest))) : W p l e R s m args below meth c H locs cells slots Q (F0 m pc ls (.int n :: rest)) := by
  refine va_newa (a0 := (N, .inl (fun _ => 0))) E.1 E.2.1 (E.2.2.2.2 _ ay_boolean) (ty := .boolean) rfl F.1 hw.1 hw.2.1 hw.2.2 F.2.1 (fun cA => by first | rfl | exact vp_cell_i | exact vp_cell_l) hn hN hby hcells hslots hdg (fun q cA H1 a0 a1 a2 a3 => ?_)
  have hcA : cA = cy 3 := va_RA_eq (a0.2 6 _ rfl).2 (F.1.2 3 _ rfl).2
  subst hcA
  have hq := PW_notin a2
  have hp : PW cy S ++ [(q, .inl (cy 3, N, .inl (fun _ => 0)))] = PW cy (nw S q 15 N) := nw_PW hq (by rw [wE_z (S := nw S q 15 N) nw_K, nw_N]; simp [nw, va_up])
  rw [hp] at a1 a2
  exact kk q H1 _ rfl hq ⟨a1, a2, a3⟩ nw_t (nw_Gr hq)
theorem n_F (E : CallFix p m c cc nL s args LW own) (F : Fx D cy kc A s) (hw : Wd D cy A s H locs S) {index : Nat} (hcl : Cond.classLink own index "LastWord$Formula" ∈ LW) {n : Int32} {N : Nat} (hn : ¬ n < 0) (hN : n.toNatClampNeg = N) (hby : N * 4 ≤ 536870912) (hcells : cells + 1 ≤ R.cells) (hslots : slots + N ≤ R.slots) (hdg : decode cc pc = .ok (.anewarray index, 3))
    (kk : ∀ (q : Nat) (H : Heap) (S1 : PS), S1 = nw S q 16 N → q ∉ S.1 → Wd D cy A s H locs S1 → tD S1 q 16 → Gr S S1 → W p l e R s m args below meth c H locs (cells + 1) (slots + N) Q (F0 m (pc + 3) ls (.ref q :: rest))) : W p l e R s m args below meth c H locs cells slots Q (F0 m pc ls (.int n :: rest)) := by
  refine va_newq E.1 E.2.1 E.2.2.2.1 (E.2.2.2.2 _ hcl) F.2.2.2.2.2.2.2.2.1 F.1 hw.1 hw.2.1 hw.2.2 F.2.1 hn hN hby hcells hslots hdg (fun q cA H1 a0 a1 a2 a3 => ?_)
  have hcA : cA = cy 4 := va_RA_eq (a0.2 6 _ rfl).2 (F.1.2 4 _ rfl).2
  subst hcA
  have hq := PW_notin a2
  have hp : PW cy S ++ [(q, .inl (cy 4, N, .inr (.inr (.inr (.inr (fun _ => none))))))] = PW cy (nw S q 16 N) := nw_PW hq (by rw [wE_f (S := nw S q 16 N) nw_K, nw_N]; simp [nw, va_up])
  rw [hp] at a1 a2
  exact kk q H1 _ rfl hq ⟨a1, a2, a3⟩ nw_t (nw_Gr hq)
theorem n_T (E : CallFix p m c cc nL s args LW own) (F : Fx D cy kc A s) (hw : Wd D cy A s H locs S) {index : Nat} (hcl : Cond.classLink own index "LastWord$Told" ∈ LW) {n : Int32} {N : Nat} (hn : ¬ n < 0) (hN : n.toNatClampNeg = N) (hby : N * 4 ≤ 536870912) (hcells : cells + 1 ≤ R.cells) (hslots : slots + N ≤ R.slots) (hdg : decode cc pc = .ok (.anewarray index, 3))
    (kk : ∀ (q : Nat) (H : Heap) (S1 : PS), S1 = nw S q 17 N → q ∉ S.1 → Wd D cy A s H locs S1 → tD S1 q 17 → Gr S S1 → W p l e R s m args below meth c H locs (cells + 1) (slots + N) Q (F0 m (pc + 3) ls (.ref q :: rest))) : W p l e R s m args below meth c H locs cells slots Q (F0 m pc ls (.int n :: rest)) := by
  refine va_newq E.1 E.2.1 E.2.2.2.1 (E.2.2.2.2 _ hcl) F.2.2.2.2.2.2.2.2.2 F.1 hw.1 hw.2.1 hw.2.2 F.2.1 hn hN hby hcells hslots hdg (fun q cA H1 a0 a1 a2 a3 => ?_)
  have hcA : cA = cy 5 := va_RA_eq (a0.2 6 _ rfl).2 (F.1.2 5 _ rfl).2
  subst hcA
  have hq := PW_notin a2
  have hp : PW cy S ++ [(q, .inl (cy 5, N, .inr (.inr (.inr (.inr (fun _ => none))))))] = PW cy (nw S q 17 N) := nw_PW hq (by rw [wE_t (S := nw S q 17 N) nw_K, nw_N]; simp [nw, va_up])
  rw [hp] at a1 a2
  exact kk q H1 _ rfl hq ⟨a1, a2, a3⟩ nw_t (nw_Gr hq)
theorem p_RF (E : CallFix p m c cc nL s args LW own) (F : Fx D cy kc A s) (hw : Wd D cy A s H locs S) {C : String} {T : u_T} {N ci k a index v : Nat} {ty0 : Nat → FieldType} (ht : tD S a ci) (hc : CF ci C T N ty0) (hf : FK own index C T N k) (hfin : (T k).2.2.2 = true) (hnm : meth.name = "<init>") (hdecl : (T k).1 = own) (hn : narrow (ty0 k) (.ref v) = .ref v) (hfit : fits (ty0 k) (.ref v) = true) (hdg : decode cc pc = .ok (.putfield index, 3)) (h1 : fv (pR S a k (some v)) ci a k = va_rf (sR (pR S a k (some v)) a k))
    (kk : ∀ (H : Heap) (locs : List Loc), Wd D cy A s H locs (pR S a k (some v)) → W p l e R s m args below meth c H locs cells slots Q (F0 m (pc + 3) ls rest)) : W p l e R s m args below meth c H locs cells slots Q (F0 m pc ls (.ref v :: .ref a :: rest)) := by
  obtain ⟨q0, hq⟩ := PW_get (cy := cy) ht.1
  have hq0 := hq
  rw [wE_o ht.2 hc.1] at hq
  have hset : (PW cy S).set q0 (a, .inr (ci, (fl S ci a).set k (.ref v))) = PW cy (pR S a k (some v)) := by
    refine PW_set hw.2.1 ht.1 hq0 rfl ?_ (fun _ => wE_pR)
    rw [wE_o (S := pR S a k (some v)) (ci := ci) ht.2 hc.1, fl_set (T := pR S a k (some v)) (h1.trans (by rw [sR_same]; rfl)) (fun _ => fv_pR)]
  refine va_putF E.1 E.2.1 E.2.2.2.2 hc.2.2.2.1 ty0 hc.2.2.2.2.1 hc.2.2.2.2.2 E.2.2.2.1 F.1 hw.1 hw.2.1 hw.2.2 q0 hq hc.2.1 k hf.1 (E.2.2.2.2 _ hf.2.1) (fun x h => by rw [hf.2.2] at h; exact h) hfin hnm hdecl (hc.2.2.2.2.1 k hf.1) hn hfit (by rw [fl_len, hc.2.2.1]; exact hf.1) hdg (fun H1 locs1 a1 a2 a3 => ?_)
  rw [hset] at a1 a2
  exact kk H1 locs1 ⟨a1, a2, a3⟩
theorem b_f (E : CallFix p m c cc nL s args LW own) (F : Fx D cy kc A s) (hw : Wd D cy A s H locs S) {a v : Nat} {i : Int32} (ht : tD S a 16) (hv : tD S v 1) (hi : ib i (sN S a) = true) (hdg : decode cc pc = .ok (.aastore, 1))
    (kk : ∀ (H : Heap) (locs : List Loc), Wd D cy A s H locs (pR S a i.toNatClampNeg (some v)) → W p l e R s m args below meth c H locs cells slots Q (F0 m (pc + 1) ls rest)) : W p l e R s m args below meth c H locs cells slots Q (F0 m pc ls (.ref v :: .int i :: .ref a :: rest)) := by
  obtain ⟨q0, hq⟩ := PW_get (cy := cy) ht.1
  obtain ⟨q1, hq1⟩ := PW_get (cy := cy) hv.1
  have hq0 := hq
  rw [wE_f ht.2] at hq
  rw [wE_o hv.2 (by decide)] at hq1
  have hset : (PW cy S).set q0 (a, .inl (cy 4, sN S a, .inr (.inr (.inr (.inr (va_up (S.2.2.2.2.2 a) i.toNatClampNeg (some v))))))) = PW cy (pR S a i.toNatClampNeg (some v)) :=
    PW_set hw.2.1 ht.1 hq0 rfl (by rw [wE_f (S := pR S a i.toNatClampNeg (some v)) ht.2]; simp [pR, va_up, sN]) (fun _ => wE_pR)
  refine va_astq E.1 E.2.1 F.1 hw.1 hw.2.1 hw.2.2 q0 4 q1 1 hq rfl hq1 cf1.2.1 (ib_in hi) hdg (fun H1 locs1 a1 a2 a3 => ?_)
  rw [hset] at a1 a2
  exact kk H1 locs1 ⟨a1, a2, a3⟩
theorem b_t (E : CallFix p m c cc nL s args LW own) (F : Fx D cy kc A s) (hw : Wd D cy A s H locs S) {a v : Nat} {i : Int32} (ht : tD S a 17) (hv : tD S v 8) (hi : ib i (sN S a) = true) (hdg : decode cc pc = .ok (.aastore, 1))
    (kk : ∀ (H : Heap) (locs : List Loc), Wd D cy A s H locs (pR S a i.toNatClampNeg (some v)) → W p l e R s m args below meth c H locs cells slots Q (F0 m (pc + 1) ls rest)) : W p l e R s m args below meth c H locs cells slots Q (F0 m pc ls (.ref v :: .int i :: .ref a :: rest)) := by
  obtain ⟨q0, hq⟩ := PW_get (cy := cy) ht.1
  obtain ⟨q1, hq1⟩ := PW_get (cy := cy) hv.1
  have hq0 := hq
  rw [wE_t ht.2] at hq
  rw [wE_o hv.2 (by decide)] at hq1
  have hset : (PW cy S).set q0 (a, .inl (cy 5, sN S a, .inr (.inr (.inr (.inr (va_up (S.2.2.2.2.2 a) i.toNatClampNeg (some v))))))) = PW cy (pR S a i.toNatClampNeg (some v)) :=
    PW_set hw.2.1 ht.1 hq0 rfl (by rw [wE_t (S := pR S a i.toNatClampNeg (some v)) ht.2]; simp [pR, va_up, sN]) (fun _ => wE_pR)
  refine va_astq E.1 E.2.1 F.1 hw.1 hw.2.1 hw.2.2 q0 5 q1 8 hq rfl hq1 cf8.2.1 (ib_in hi) hdg (fun H1 locs1 a1 a2 a3 => ?_)
  rw [hset] at a1 a2
  exact kk H1 locs1 ⟨a1, a2, a3⟩
theorem o_I (E : CallFix p m c cc nL s args LW own) (hsz : ls.size = nL) {idx a : Nat} (hl : Cond.methodLink own idx Lib.objectInit ∈ LW) (hd : decode cc pc = .ok (.invokespecial idx, 3)) (hfr : 1 ≤ R.frames) (hlo : (rest.map fun v => v.category).sum + 12 ≤ R.locals)
    (kk : W p l e R s m args below meth c H locs cells slots Q (F0 m (pc + 3) ls rest)) : W p l e R s m args below meth c H locs cells slots Q (F0 m pc ls (.ref a :: rest)) :=
  W.objInit E.1 E.2.1 E.2.2.2.1 (E.2.2.2.2 _ hl) (E.2.2.2.2 _ oi_i) (E.2.2.2.2 _ oi_c) (g := F0 m pc ls (.ref a :: rest)) rfl (hsz.trans E.2.2.1.symm) rfl hd hfr (by simpa using hlo) kk
end AllocRows
abbrev GI (D : va_G) (cy : Nat → ClassId) (S : PS) (post : Int32 → PS → Prop) (sz : Nat) : Array Value → State → Outcome → State → Prop := va_Qi (fun r (u : PS) => post r u ∧ Gr S u) (BB D cy S sz) (va_A (PW cy S) sz)
abbrev GJ (D : va_G) (cy : Nat → ClassId) (S : PS) (post : Int64 → PS → Prop) (sz : Nat) : Array Value → State → Outcome → State → Prop := va_Ql (fun r (u : PS) => post r u ∧ Gr S u) (BB D cy S sz) (va_A (PW cy S) sz)
abbrev GV (D : va_G) (cy : Nat → ClassId) (S : PS) (post : Unit → PS → Prop) (sz : Nat) : Array Value → State → Outcome → State → Prop := va_Qv (fun (u : PS) => post () u ∧ Gr S u) (BB D cy S sz) (va_A (PW cy S) sz)
abbrev GR (D : va_G) (cy : Nat → ClassId) (S : PS) (post : Nat → PS → Prop) (sz : Nat) : Array Value → State → Outcome → State → Prop := va_Qr (fun (u : PS × Nat) => post u.2 u.1 ∧ Gr S u.1) (fun u a t => a = u.2 ∧ BB D cy S sz u.1 t) (va_A (PW cy S) sz)
abbrev NSE : String := "java/util/NoSuchElementException"
abbrev XX (D : va_G) (cy : Nat → ClassId) (S : PS) (post : PS → Prop) (sz : Nat) : String → State → State → Prop := vx_X (fun (u : PS) => post u ∧ Gr S u) (fun E u t => E = NSE ∧ BB D cy S sz u t) (va_A (PW cy S) sz)
def HI (l : Launch) (D : va_G) (cy : Nat → ClassId) (kc : Nat → Nat) (y : MethodName) (cc : ByteArray) (nL : Nat) (rt : FieldType) (rm : Room) (av : List Value) (S : PS) (post : Int32 → PS → Prop) : Prop :=
  ∀ sz, Met l y (.code y cc nL (some rt) :: LW) rm (va_Pc av (PB D cy kc S sz)) (GI D cy S post sz) rm.cells rm.slots (va_A (PW cy S) sz)
def HV (l : Launch) (D : va_G) (cy : Nat → ClassId) (kc : Nat → Nat) (y : MethodName) (cc : ByteArray) (nL : Nat) (rm : Room) (av : List Value) (S : PS) (post : Unit → PS → Prop) : Prop :=
  ∀ sz, Met l y (.code y cc nL none :: LW) rm (va_Pc av (PB D cy kc S sz)) (GV D cy S post sz) rm.cells rm.slots (va_A (PW cy S) sz)
def HR (l : Launch) (D : va_G) (cy : Nat → ClassId) (kc : Nat → Nat) (y : MethodName) (cc : ByteArray) (nL : Nat) (rt : FieldType) (rm : Room) (av : List Value) (S : PS) (post : Nat → PS → Prop) : Prop :=
  ∀ sz, Met l y (.code y cc nL (some rt) :: LW) rm (va_Pc av (PB D cy kc S sz)) (GR D cy S post sz) rm.cells rm.slots (va_A (PW cy S) sz)
def XI (l : Launch) (D : va_G) (cy : Nat → ClassId) (kc : Nat → Nat) (y : MethodName) (cc : ByteArray) (nL : Nat) (rt : FieldType) (rm : Room) (av : List Value) (S : PS) (post : Option Int32 → PS → Prop) : Prop :=
  ∀ sz, vx_Met l y (.code y cc nL (some rt) :: LW) rm (va_Pc av (PB D cy kc S sz)) (GI D cy S (fun r => post (some r)) sz) (XX D cy S (post none) sz) rm.cells rm.slots (va_A (PW cy S) sz)
def XJ (l : Launch) (D : va_G) (cy : Nat → ClassId) (kc : Nat → Nat) (y : MethodName) (cc : ByteArray) (nL : Nat) (rm : Room) (av : List Value) (S : PS) (post : Option Int64 → PS → Prop) : Prop :=
  ∀ sz, vx_Met l y (.code y cc nL (some .long) :: LW) rm (va_Pc av (PB D cy kc S sz)) (GJ D cy S (fun r => post (some r)) sz) (XX D cy S (post none) sz) rm.cells rm.slots (va_A (PW cy S) sz)
def XV (l : Launch) (D : va_G) (cy : Nat → ClassId) (kc : Nat → Nat) (y : MethodName) (cc : ByteArray) (nL : Nat) (rm : Room) (av : List Value) (S : PS) (post : Option Unit → PS → Prop) : Prop :=
  ∀ sz, vx_Met l y (.code y cc nL none :: LW) rm (va_Pc av (PB D cy kc S sz)) (GV D cy S (fun r => post (some r)) sz) (XX D cy S (post none) sz) rm.cells rm.slots (va_A (PW cy S) sz)
section GRows
variable {p : Program} {l : Launch} {e : Env} {R : Room} {s : State} {m : MethodId} {args : Array Value} {below : List Frame} {meth : Method} {c : Code} {H : Heap} {locs : List Loc} {cells slots mc ms : Nat} {Q : State → Prop} {cc : ByteArray} {pc nL : Nat} {ls : Array Slot} {rest : List Value} {own : String} {D : va_G} {cy : Nat → ClassId} {kc : Nat → Nat} {A : Nat → Prop} {S S0 : PS}

theorem g_VI (E : CallFix p m c cc nL s args LW own) (F : Fx D cy kc A s) (hw : Wd D cy A s H locs S) {y : MethodName} {bytes : ByteArray} {maxL n index : Nat} {rt : FieldType} {rm : Room} {b ci N : Nat} {T : u_T} {ty0 : Nat → FieldType} {post : Int32 → PS → Prop} (As : List Value) (hk : HI l D cy kc y bytes maxL rt rm (.ref b :: As) S post) (ht : tD S b ci) (hc : CF ci y.cls T N ty0) (hM : MK y bytes maxL (some rt) n) (hV : VK y) (hl : Cond.methodLink own index y ∈ LW) (hR : rm.frames + 1 ≤ R.frames ∧ 24 + (maxL + 11) + rm.locals ≤ R.locals) (hn : As.length = n) (hsz : ls.size = nL) {st : List Value} (hst : st = As.reverse ++ .ref b :: rest) (hrest : (rest.map fun v => v.category).sum ≤ 24) (hdg : decode cc pc = .ok (.invokevirtual index, 3)) (hf : cells + rm.cells ≤ R.cells ∧ slots + rm.slots ≤ R.slots)
    (kk : ∀ (r : Int32) (S1 : PS) (H : Heap) (locs : List Loc), post r S1 → Wd D cy A s H locs S1 → Gr S S1 → W p l e R s m args below meth c H locs (cells + rm.cells) (slots + rm.slots) Q (F0 m (pc + 3) ls (.int r :: rest))) : W p l e R s m args below meth c H locs cells slots Q (F0 m pc ls st) :=
  va_calli (w_runV E hM hV hl hR (hk H.size) ⟨PB_blind, c_recv F hw ht hc, fun U hU hW => ⟨rfl, PB_of F hw hU hW⟩⟩ rfl hn hsz hst (by simpa using hrest) hdg hf) hw.2.2 (fun q _ h => Wd_free F hw q h) (Wd_free F hw) (fun r1 u t H1 locs1 ht1 hvm hp hB _ _ hS =>
    kk r1 u H1 locs1 hp.1 (Wd_back F hw ht1 hB hS) hp.2)
theorem g_SR (E : CallFix p m c cc nL s args LW own) (F : Fx D cy kc A s) (hw : Wd D cy A s H locs S) {y : MethodName} {bytes : ByteArray} {maxL n index : Nat} {rt : FieldType} {rm : Room} {post : Nat → PS → Prop} (As : List Value) (hk : HR l D cy kc y bytes maxL rt rm As S post) (hM : MK y bytes maxL (some rt) n) (hV : Cond.static y ∈ LW) (hl : Cond.methodLink own index y ∈ LW) (hR : rm.frames + 1 ≤ R.frames ∧ 24 + (maxL + 11) + rm.locals ≤ R.locals) (hn : As.length = n) (hsz : ls.size = nL) {st : List Value} (hst : st = As.reverse ++ rest) (hrest : (rest.map fun v => v.category).sum ≤ 24) (hdg : decode cc pc = .ok (.invokestatic index, 3)) (hf : cells + rm.cells ≤ R.cells ∧ slots + rm.slots ≤ R.slots)
    (kk : ∀ (r : Nat) (S1 : PS) (H : Heap) (locs : List Loc), post r S1 → Wd D cy A s H locs S1 → Gr S S1 → W p l e R s m args below meth c H locs (cells + rm.cells) (slots + rm.slots) Q (F0 m (pc + 3) ls (.ref r :: rest))) : W p l e R s m args below meth c H locs cells slots Q (F0 m pc ls st) :=
  va_callr (w_runS E hM hV hl hR (hk H.size) ⟨PB_blind, fun U hU hW => ⟨rfl, PB_of F hw hU hW⟩⟩ rfl hn hsz hst (by simpa using hrest) hdg hf) hw.2.2 (fun q _ h => Wd_free F hw q h) (Wd_free F hw) (fun u ra t H1 locs1 ht1 hvm hp hB _ _ hS => by
    obtain ⟨rfl, hB⟩ := hB
    exact kk u.2 u.1 H1 locs1 hp.1 (Wd_back F hw ht1 hB hS) hp.2)
theorem g_I (E : CallFix p m c cc nL s args LW own) (F : Fx D cy kc A s) (hw : Wd D cy A s H locs S) {y : MethodName} {bytes : ByteArray} {maxL n index : Nat} {rm : Room} {b : Nat} {post : Unit → PS → Prop} (As : List Value) (hk : HV l D cy kc y bytes maxL rm (.ref b :: As) S post) (hM : MK y bytes maxL none n) (hI : Cond.instanceMethod y ∈ LW) (hy : y.name = "<init>") (hl : Cond.methodLink own index y ∈ LW) (hR : rm.frames + 1 ≤ R.frames ∧ 8 + (maxL + 11) + rm.locals ≤ R.locals) (hn : As.length = n) (hsz : ls.size = nL) {st : List Value} (hst : st = As.reverse ++ .ref b :: rest) (hrest : (rest.map fun v => v.category).sum ≤ 8) (hdg : decode cc pc = .ok (.invokespecial index, 3)) (hf : cells + rm.cells ≤ R.cells ∧ slots + rm.slots ≤ R.slots)
    (kk : ∀ (S1 : PS) (H : Heap) (locs : List Loc), post () S1 → Wd D cy A s H locs S1 → Gr S S1 → W p l e R s m args below meth c H locs (cells + rm.cells) (slots + rm.slots) Q (F0 m (pc + 3) ls rest)) : W p l e R s m args below meth c H locs cells slots Q (F0 m pc ls st) :=
  va_callv (va_runI E (hk H.size) ⟨c_B E hM hl hR, hy, E.2.2.2.2 _ hI⟩ ⟨PB_blind, fun U hU hW => ⟨rfl, PB_of F hw hU hW⟩⟩ rfl hn hsz hst (by simpa using hrest) hdg hf) hw.2.2 (fun q _ h => Wd_free F hw q h) (Wd_free F hw) (fun u t H1 locs1 ht1 hvm hp hB _ _ hS =>
    kk u H1 locs1 hp.1 (Wd_back F hw ht1 hB hS) hp.2)
theorem g_IN (E : CallFix p m c cc nL s args LW own) (F : Fx D cy kc A s) (hw : Wd D cy A s H locs S) {y : MethodName} {bytes : ByteArray} {maxL n index : Nat} {rm : Room} {b : Nat} {host : String} {post : Unit → PS → Prop} (As : List Value) (hk : HV l D cy kc y bytes maxL rm (.ref b :: As) S post) (hM : MK y bytes maxL none n) (hI : Cond.instanceMethod y ∈ LW) (hy : y.name = "<init>") (hl : va_Nw (.methodLinkNest own index y host) s) (hR : rm.frames + 1 ≤ R.frames ∧ 8 + (maxL + 11) + rm.locals ≤ R.locals) (hn : As.length = n) (hsz : ls.size = nL) {st : List Value} (hst : st = As.reverse ++ .ref b :: rest) (hrest : (rest.map fun v => v.category).sum ≤ 8) (hdg : decode cc pc = .ok (.invokespecial index, 3)) (hf : cells + rm.cells ≤ R.cells ∧ slots + rm.slots ≤ R.slots)
    (kk : ∀ (S1 : PS) (H : Heap) (locs : List Loc), post () S1 → Wd D cy A s H locs S1 → Gr S S1 → W p l e R s m args below meth c H locs (cells + rm.cells) (slots + rm.slots) Q (F0 m (pc + 3) ls rest)) : W p l e R s m args below meth c H locs cells slots Q (F0 m pc ls st) :=
  va_callv (va_runIN E (hk H.size) ⟨va_cnB n E.2.2.2.2 (LW_good hM.1) rfl rfl rfl hl (E.2.2.2.2 _ hM.2.1) hM.2.2 hR, hy, E.2.2.2.2 _ hI⟩ ⟨PB_blind, fun U hU hW => ⟨rfl, PB_of F hw hU hW⟩⟩ rfl hn hsz hst (by simpa using hrest) hdg hf) hw.2.2 (fun q _ h => Wd_free F hw q h) (Wd_free F hw) (fun u t H1 locs1 ht1 hvm hp hB _ _ hS =>
    kk u H1 locs1 hp.1 (Wd_back F hw ht1 hB hS) hp.2)
theorem h_I {S' : PS} {r : Int32} {post : Int32 → PS → Prop} (E : CallFix p m c cc nL s args LW own) (hr : meth.sig.returnType = some .int) (hlk : meth.locks = false) (F : Fx D cy kc A s) (hA : A = va_A (PW cy S0) s.heap.size) (hw : Wd D cy A s H locs S') (hG : Gr S0 S') (hp : post r S') (hc : cells ≤ mc) (hs : slots ≤ ms) (hdg : decode cc pc = .ok (.ireturn, 1)) : W p l e R s m args below meth c H locs cells slots (MQ below (GI D cy S0 post s.heap.size) args s mc ms A) (F0 m pc ls [.int r]) := by
  subst hA
  exact W.widen hc hs (W.iret E.1 E.2.1 hr (fun t ht hW => ⟨⟨r, S', rfl, ⟨hp, hG⟩, by rw [ht]; exact hw.1, va_K.moved hW.alike F.1, hw.2.1⟩, hw.2.2.F ht⟩) hw.2.2.2.2 hdg)
theorem h_Z {S' : PS} {r : Int32} {post : Int32 → PS → Prop} (E : CallFix p m c cc nL s args LW own) (hr : meth.sig.returnType = some .boolean) (hlk : meth.locks = false) (F : Fx D cy kc A s) (hA : A = va_A (PW cy S0) s.heap.size) (hw : Wd D cy A s H locs S') (hG : Gr S0 S') (hb : isB r = true) (hp : post r S') (hc : cells ≤ mc) (hs : slots ≤ ms) (hdg : decode cc pc = .ok (.ireturn, 1)) : W p l e R s m args below meth c H locs cells slots (MQ below (GI D cy S0 post s.heap.size) args s mc ms A) (F0 m pc ls [.int r]) := by
  subst hA
  exact W.widen hc hs (W.zret E.1 E.2.1 hr (isB_nar hb) (fun t ht hW => ⟨⟨r, S', rfl, ⟨hp, hG⟩, by rw [ht]; exact hw.1, va_K.moved hW.alike F.1, hw.2.1⟩, hw.2.2.F ht⟩) hw.2.2.2.2 hdg)
theorem h_J {S' : PS} {r : Int64} {post : Int64 → PS → Prop} (E : CallFix p m c cc nL s args LW own) (hr : meth.sig.returnType = some .long) (hlk : meth.locks = false) (F : Fx D cy kc A s) (hA : A = va_A (PW cy S0) s.heap.size) (hw : Wd D cy A s H locs S') (hG : Gr S0 S') (hp : post r S') (hc : cells ≤ mc) (hs : slots ≤ ms) (hdg : decode cc pc = .ok (.lreturn, 1)) : W p l e R s m args below meth c H locs cells slots (MQ below (GJ D cy S0 post s.heap.size) args s mc ms A) (F0 m pc ls [.long r]) := by
  subst hA
  exact W.widen hc hs (W.lret E.1 E.2.1 hr (fun t ht hW => ⟨⟨r, S', rfl, ⟨hp, hG⟩, by rw [ht]; exact hw.1, va_K.moved hW.alike F.1, hw.2.1⟩, hw.2.2.F ht⟩) hw.2.2.2.2 hdg)
theorem h_V {S' : PS} {post : Unit → PS → Prop} (E : CallFix p m c cc nL s args LW own) (hr : meth.sig.returnType = none) (hlk : meth.locks = false) (F : Fx D cy kc A s) (hA : A = va_A (PW cy S0) s.heap.size) (hw : Wd D cy A s H locs S') (hG : Gr S0 S') (hp : post () S') (hc : cells ≤ mc) (hs : slots ≤ ms) (hdg : decode cc pc = .ok (.return_, 1)) : W p l e R s m args below meth c H locs cells slots (MQ below (GV D cy S0 post s.heap.size) args s mc ms A) (F0 m pc ls []) := by
  subst hA
  exact W.widen hc hs (W.vret E.1 E.2.1 hr (fun t ht hW => ⟨⟨S', rfl, ⟨hp, hG⟩, by rw [ht]; exact hw.1, va_K.moved hW.alike F.1, hw.2.1⟩, hw.2.2.F ht⟩) hw.2.2.2.2 hdg)
theorem h_R {S' : PS} {r : Nat} {post : Nat → PS → Prop} {rt : FieldType} (hrt : (∃ n, rt = .object n) ∨ ∃ t, rt = .array t) (E : CallFix p m c cc nL s args LW own) (hr : meth.sig.returnType = some rt) (hlk : meth.locks = false) (F : Fx D cy kc A s) (hA : A = va_A (PW cy S0) s.heap.size) (hw : Wd D cy A s H locs S') (hG : Gr S0 S') (hp : post r S') (hc : cells ≤ mc) (hs : slots ≤ ms) (hdg : decode cc pc = .ok (.areturn, 1)) : W p l e R s m args below meth c H locs cells slots (MQ below (GR D cy S0 post s.heap.size) args s mc ms A) (F0 m pc ls [.ref r]) := by
  subst hA
  exact W.widen hc hs (W.aret E.1 E.2.1 hr hrt (Or.inr ⟨_, rfl⟩) (fun t ht hW => ⟨⟨(S', r), r, rfl, ⟨hp, hG⟩, rfl, by rw [ht]; exact hw.1, va_K.moved hW.alike F.1, hw.2.1⟩, hw.2.2.F ht⟩) hw.2.2.2.2 hdg)
/-- into a body that may throw -/
theorem X_body {ret : Option FieldType} {y : MethodName} {rm : Room} {av : List Value} {Qc : Nat → Array Value → State → Outcome → State → Prop} {XC : Nat → String → State → State → Prop} (hy : plainName y.cls = true) (hs : (lg_sl av).length ≤ nL)
    (body : ∀ (p : Program) (e : Env) (s : State) (m : MethodId) (below : List Frame) (meth : Method) (c : Code) (A : Nat → Prop) (ls : Array Slot) (args : Array Value), CallFix p m c cc nL s args LW y.cls → meth.sig.returnType = ret → meth.locks = false → meth.name = y.name → A = va_A (PW cy S) s.heap.size → Fx D cy kc A s → Wd D cy A s s.heap [] S → lv_has ls nL (lv_args 0 av) → (∀ x ∈ c.exceptionTable.toList, False) →
      W p l e rm s m args below meth c s.heap [] 0 0 (vx_MQ below (Qc s.heap.size) (XC s.heap.size) args s rm.cells rm.slots A) (F0 m 0 ls [])) :
    ∀ sz, vx_Met l y (.code y cc nL ret :: LW) rm (va_Pc av (PB D cy kc S sz)) (Qc sz) (XC sz) rm.cells rm.slots (va_A (PW cy S) sz) := by
  intro sz
  refine vx_ofW (cc := cc) (maxL := nL) (ret := ret) hy rfl ?_
  intro p e s m args below meth c s₁ B hml ht hv
  obtain ⟨rfl, hsz, hP, hK, hD0, hSt⟩ := hv
  have hts : ∀ w ∈ LW, w.before av.toArray s = true := fun w hw => atoms_spec (ws := .code y cc nL ret :: LW) B.pre w (List.mem_cons_of_mem _ hw)
  have hown : s.vm.findClass y.cls = some m.cls := findClass_of_methodNamed B.named
  subst hsz
  rw [lg_entry_eq]
  exact body p e s m below meth c _ _ _ ⟨B.exec, B.bytes, hml, hown, hts⟩ B.returns B.notSynchronized (name_of_methodNamed B.named B.method).1 rfl ⟨hK, fun q h => Or.inr h, hSt⟩ ⟨hP, hD0.self, va_S.rf⟩ (lv_entry av hs) ht
theorem BB_keep (F : Fx D cy kc A s) (hA : A = va_A (PW cy S0) s.heap.size) (hw : Wd D cy A s H locs S) {t : State} (hvm : s.vm.Alike t.vm) (hz : H.size ≤ t.heap.size) (hk : ∀ q : Nat, q < H.size → t.heap[q]? = H[q]?) : BB D cy S0 s.heap.size S t ∧ va_F A s t := by
  subst hA
  refine ⟨⟨hw.1.kept (fun k x hx => hk x.1 ((hw.1 k x hx).lt)), va_K.moved hvm F.1, hw.2.1⟩, Nat.le_trans hw.2.2.1 hz, fun q h1 h2 => ?_⟩
  rw [hk q (Nat.lt_of_lt_of_le h1 hw.2.2.1)]
  exact hw.2.2.2.1 q h1 h2
abbrev rxN : ByteArray := prog_30_method_4_code
theorem rx0 : decode rxN 0 = .ok (.aload_n 0, 1) := by decide +kernel
theorem rx1 : decode rxN 1 = .ok (.aload_n 1, 1) := by decide +kernel
theorem rx2 : decode rxN 2 = .ok (.invokespecial 13, 3) := by decide +kernel
theorem rx5 : decode rxN 5 = .ok (.return_, 1) := by decide +kernel
theorem tst1 : ∀ w ∈ vx_atX RX10 406 NSE 13 rxN ["java/lang/RuntimeException", "java/lang/Exception"], (goodWord w || Cond.faceAtom w) = true := by decide +kernel
theorem tst2 : ∀ w ∈ (vx_atX RX10 406 NSE 13 rxN ["java/lang/RuntimeException", "java/lang/Exception"]).filter goodWord, w ∈ lw_tbl := by decide +kernel
theorem tst3 : ∀ w ∈ (vx_atX RX10 406 NSE 13 rxN ["java/lang/RuntimeException", "java/lang/Exception"]).filter Cond.faceAtom, w ∈ lw_tbl := by decide +kernel
theorem atS_all : ∀ w ∈ vx_atX RX10 406 NSE 13 rxN ["java/lang/RuntimeException", "java/lang/Exception"], w ∈ lw_tbl ∧ (goodWord w || Cond.faceAtom w) = true := by
  intro w hw
  have h := tst1 w hw
  refine ⟨?_, h⟩
  rcases Bool.or_eq_true_iff.mp h with g | g
  · exact tst2 w (List.mem_filter.mpr ⟨hw, g⟩)
  · exact tst3 w (List.mem_filter.mpr ⟨hw, g⟩)
theorem atS_ot : ∀ w ∈ Cond.classLink RX10 402 NSE :: Cond.initialized NSE :: vx_atX RX10 406 NSE 13 rxN ["java/lang/RuntimeException", "java/lang/Exception"], vx_ot w = true := by decide +kernel
theorem atS_at (E : CallFix p m c cc nL s args LW own) (F : Fx D cy kc A s) : ∀ w ∈ vx_atX RX10 406 NSE 13 rxN ["java/lang/RuntimeException", "java/lang/Exception"], w.before args s = true := by
  intro w hw
  obtain ⟨h1, h2⟩ := atS_all w hw
  by_cases g : goodWord w = true
  · exact E.2.2.2.2 w (LW_mem h1 g)
  · have hf : Cond.faceAtom w = true := by
      rcases Bool.or_eq_true_iff.mp h2 with h | h
      · exact absurd h g
      · exact h
    exact va_Nw.use (faceT w hf) (F.2.2.2.1 w (List.mem_filter.mpr ⟨h1, hf⟩))
theorem nse_k : Cond.classLink RX10 402 NSE ∈ LW := LW_t tb5 (k := 168) rfl rfl
theorem nse_i : Cond.initialized NSE ∈ LW := LW_t tb1 (k := 23) rfl rfl
theorem k_X10_need (l : Launch) (hst : l.stackTraces = false) (D : va_G) (cy : Nat → ClassId) (kc : Nat → Nat) (x0 : Int32) (S : PS) (post : Option Unit → PS → Prop) (h : (x0 = 0 → post none S) ∧ (¬ x0 = 0 → post (some ()) S)) : XV l D cy kc yX10_need cX10_need 1 (rmK 8 120 1 6) [.int x0] S post := by
  refine X_body (Qc := fun sz => GV D cy S (fun r => post (some r)) sz) (XC := fun sz => XX D cy S (post none) sz) (by decide) (Nat.le_of_ble_eq_true rfl) ?_
  intro p e s m below meth c A ls args E hr hlk hnm hA F hw hl hnt
  have hx := E.1
  have hb := E.2.1
  have hl : lv_has ls 1 [(0, .int x0)] := hl
  refine lv_iload_n hx hb dX10_need_0 rfl (lv_at hl 0 rfl) ?_
  refine lv_if_ne (tgt := 15) hx hb dX10_need_1 (by decide) (fun c0 => ?_) (fun c0 => ?_)
  · subst hA
    exact vx_ret (h_V E hr hlk F rfl hw Gr.rf (h.2 c0) (Nat.zero_le _) (Nat.zero_le _) dX10_need_15)
  · refine vx_throwX (rx := rxN) (ix := 13) (own := RX10) (cls := NSE) (text := "there is no such thing to tell of") (names := ["java/lang/RuntimeException", "java/lang/Exception"]) (ik := 402) (is := 404) (ic := 406) (sa := kc 4) (A := A) hx hb hst rx0 rx1 rx2 rx5 E.2.2.2.1 (by decide) (by decide) (E.2.2.2.2 _ nse_k) (E.2.2.2.2 _ nse_i) F.2.2.2.2.2.2.2.1 (atS_at E F) atS_ot F.2.2.1.2.2.2.2.2.2.1 F.2.2.1.2.2.2.2.2.2.2.1 hw.2.2 (hl.1.trans E.2.2.1.symm) dX10_need_4 dX10_need_7 dX10_need_8 dX10_need_11 dX10_need_14 (fun x hx => (hnt x hx).elim) (by decide) (by decide) (by decide) (by decide) hlk (fun t a1 a2 a3 => ?_) (fun z hz => by cases hz) (by decide) (by decide)
    obtain ⟨b1, b2⟩ := BB_keep F hA hw a1 a2 a3
    subst hA
    exact ⟨S, ⟨h.1 c0, Gr.rf⟩, ⟨rfl, b1⟩, b2⟩
/-- a call of need, in a body without handlers -/
theorem x_need (E : CallFix p m c cc nL s args LW own) (F : Fx D cy kc A s) (hw : Wd D cy A s H locs S) (hst : l.stackTraces = false) (hnt : ∀ x ∈ c.exceptionTable.toList, False) (hlk : meth.locks = false) (hA : A = va_A (PW cy S0) s.heap.size) (hg : Gr S0 S) {x : Int32} {index : Nat} {K : Prop} {postX : PS → Prop} {Qc : Array Value → State → Outcome → State → Prop} (h : (x = 0 → postX S) ∧ (¬ x = 0 → K)) (hl : Cond.methodLink own index yX10_need ∈ LW) (hR : 9 ≤ R.frames ∧ 140 ≤ R.locals) (hsz : ls.size = nL) (hrest : (rest.map fun v => v.category).sum ≤ 8) (hdg : decode cc pc = .ok (.invokestatic index, 3)) (hf : cells + 1 ≤ R.cells ∧ slots + 6 ≤ R.slots) (hm : cells + 1 ≤ mc ∧ slots + 6 ≤ ms)
    (kk : K → ∀ (H : Heap) (locs : List Loc), Wd D cy A s H locs S → W p l e R s m args below meth c H locs (cells + 1) (slots + 6) (vx_MQ below Qc (XX D cy S0 postX s.heap.size) args s mc ms A) (F0 m (pc + 3) ls rest)) : W p l e R s m args below meth c H locs cells slots (vx_MQ below Qc (XX D cy S0 postX s.heap.size) args s mc ms A) (F0 m pc ls (.int x :: rest)) := by
  have hcb := c_B (R := R) (rm := rmK 8 120 1 6) E mk_X10_need hl ⟨hR.1, by have := hR.2; simp only [rmK]; omega⟩
  refine vx_callv (vx_runS E (k_X10_need l hst D cy kc x S (fun o u => u = S ∧ (o = none ↔ x = 0)) ⟨fun e => ⟨rfl, fun _ => e, fun _ => rfl⟩, fun e => ⟨rfl, ⟨fun z => absurd z (by simp), fun z => absurd z e⟩⟩⟩ H.size) ⟨hcb, E.2.2.2.2 _ sk_X10_need⟩ ⟨PB_blind, fun U hU hW => ⟨rfl, PB_of F hw hU hW⟩⟩ rfl rfl hsz rfl (by simpa using hrest) hdg hf) hw.2.2 (fun q _ h => Wd_free F hw q h) (Wd_free F hw) (fun q _ h => Wd_free F hw q h) (fun E1 ce q9 u t H1 locs1 ht1 hvm hp hB _ _ hS hce hcv hcl => ?_) (fun u t H1 locs1 ht1 hvm hp hB _ _ hS => ?_)
  · obtain ⟨⟨rfl, hi⟩, -⟩ := hp
    obtain ⟨rfl, hB⟩ := hB
    have hw1 := Wd_back F hw ht1 hB hS
    refine vx_out (fun x hx => (hnt x hx).elim) hlk hce hcv hcl (fun t2 e2 v2 => ?_) hS.2.2 hm.1 hm.2
    obtain ⟨b1, b2⟩ := BB_keep F hA hw1 v2 (by rw [e2]; exact Nat.le_refl _) (fun q _ => by rw [e2])
    subst hA
    exact ⟨_, ⟨h.1 (hi.mp rfl), hg⟩, ⟨rfl, b1⟩, b2⟩
  · obtain ⟨⟨rfl, hi⟩, -⟩ := hp
    exact kk (h.2 (fun e => by have := hi.mpr e; cases this)) H1 locs1 (Wd_back F hw ht1 hB hS)
end GRows
