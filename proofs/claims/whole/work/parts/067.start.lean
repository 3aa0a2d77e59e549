theorem arr_of {args : Array Value} {s : State} {ty : FieldType} (hne : ∀ (U : State) (c : ClassId), U.vm.findClass ("[" ++ ty.toString) = some c → va_RA U c ty) (h : (Cond.arrayClass ty).before args s = true) : ∃ cA : ClassId, ArrOfT s cA ty ∧ va_RA s cA ty := by
  obtain ⟨c, k, comp, h1, h2, h3⟩ := Cond.arrayClass_spec h
  exact ⟨c, fun n z => ⟨fun k h => (by cases h), k, h2, comp, h3⟩, hne s c h1⟩
theorem arr_ov {args : Array Value} {s : State} {C : String} (h : (Cond.arrayOver (.object C)).before args s = true) : ∃ cA : ClassId, ArrOfT s cA (.object C) ∧ va_RA s cA (.object C) := by
  obtain ⟨comp, c, k, h1, h2, h3, h4, h5⟩ := Cond.arrayOver_spec h
  exact ⟨c, fun n z => ⟨fun k h => (by cases h), k, h3, comp, h4⟩, k, comp, h3, h4, h1, h5⟩
def tmS (i : Nat) : Term := if i = 0 then .string "LastWord$Tokens" 77 else if i = 1 then .string "LastWord$Tokens" 63 else .string "LastWord" 404
theorem nar_S1 : ∀ i, i < 3 → Cond.exactly (tmS i) "java/lang/String" ∈ flatC (Jvm.Cond.and given_1 narrow_1) := by decide +kernel
theorem nar_S2 : ∀ i, i < 3 → Cond.eq (.field (tmS i) "java/lang/String" "coder" "B") (.int 0) ∈ flatC (Jvm.Cond.and given_1 narrow_1) := by decide +kernel
theorem nar_S3 : ∀ i, i < 3 → Cond.arrayOf (.field (tmS i) "java/lang/String" "value" "[B") .byte ∈ flatC (Jvm.Cond.and given_1 narrow_1) := by decide +kernel
theorem nar_S4 : ∀ i, i < 3 → Cond.eq (.length (.field (tmS i) "java/lang/String" "value" "[B")) (.int (Int32.ofNat (lenS.getD i 0))) ∈ flatC (Jvm.Cond.and given_1 narrow_1) := by decide +kernel
theorem nar_S5 : ∀ i, i < 3 → ∀ j, j < lenS.getD i 0 → Cond.eq (.elem (.field (tmS i) "java/lang/String" "value" "[B") (.int (Int32.ofNat j))) (.int ((bytS.getD i []).getD j 0)) ∈ flatC (Jvm.Cond.and given_1 narrow_1) := by decide +kernel
theorem nar_S6 : ∀ i, i < 3 → ∀ j, j < 3 → i ≠ j → Cond.not (Cond.eq (tmS i) (tmS j)) ∈ flatC (Jvm.Cond.and given_1 narrow_1) ∨ Cond.not (Cond.eq (tmS j) (tmS i)) ∈ flatC (Jvm.Cond.and given_1 narrow_1) := by decide +kernel
theorem nar_P : ∀ j, j < 3 → Cond.eq (.elem (.static "LastWord" "PLACES" "[I") (.int (Int32.ofNat j))) (.int (k3 j)) ∈ flatC (Jvm.Cond.and given_1 narrow_1) := by decide +kernel
theorem nar_T : ∀ j, j < 4 → Cond.eq (.elem (.static "LastWordModel" "THREES" "[I") (.int (Int32.ofNat j))) (.int (k4 j)) ∈ flatC (Jvm.Cond.and given_1 narrow_1) := by decide +kernel
set_option maxHeartbeats 8000000 in
set_option maxRecDepth 100000 in
theorem whole_start {p : Program} {e : Env} {s : State} {m : MethodId} {below : List Frame} {meth : Method} {c : Code} (l : Launch) (hst : l.stackTraces = false) {b L : Nat} {xs : Nat → Int32} (hL : L ≤ 4096) (hpure : glaw L xs) (C0 : lw_At p s m meth c b L xs) : W p l e room_1 s m #[Value.ref b] below meth c s.heap [] 0 0 (lw_Z below #[Value.ref b] s) (entryFrame m ([Value.ref b] : List Value).toArray 8) := by
  obtain ⟨hx, hb, hr, hml, hown, hts, hX, hbl, hlocks, hgv⟩ := id C0
  have hfl := flat_of_before _ hgv
  have hLW : ∀ w ∈ LW, w.before #[Value.ref b] s = true := fun w hw => hts w (List.mem_filter.mp hw).1
  have hA : ∀ a : Nat, a < s.heap.size → ¬ (fun q : Nat => s.heap.size ≤ q) a := fun a h => Nat.not_le.mpr h
  obtain ⟨d0, i0, hK0⟩ := u_known (C := RX0) (T := TX0) (N := 9) (n := 9) hLW inX0 (hLW _ iz0)
  obtain ⟨d1, i1, hK1⟩ := u_known (C := RX1) (T := TX1) (N := 1) (n := 1) hLW inX1 (hLW _ iz1)
  obtain ⟨d2, i2, hK2⟩ := u_known (C := RX2) (T := TX2) (N := 6) (n := 6) hLW inX2 (hLW _ iz2)
  obtain ⟨d3, i3, hK3⟩ := u_known (C := RX3) (T := TX3) (N := 5) (n := 5) hLW inX3 (hLW _ iz3)
  obtain ⟨d4, i4, hK4⟩ := u_known (C := RX4) (T := TX4) (N := 7) (n := 7) hLW inX4 (hLW _ iz4)
  obtain ⟨d5, i5, hK5⟩ := u_known (C := RX5) (T := TX5) (N := 5) (n := 5) hLW inX5 (hLW _ iz5)
  obtain ⟨d6, i6, hK6⟩ := u_known (C := RX6) (T := TX6) (N := 13) (n := 13) hLW inX6 (hLW _ iz6)
  obtain ⟨d7, i7, hK7⟩ := u_known (C := RX7) (T := TX7) (N := 6) (n := 6) hLW inX7 (hLW _ iz7)
  obtain ⟨d8, i8, hK8⟩ := u_known (C := RX8) (T := TX8) (N := 13) (n := 13) hLW inX8 (hLW _ iz8)
  obtain ⟨d9, i9, hK9⟩ := u_known (C := RX9) (T := TX9) (N := 17) (n := 17) hLW inX9 (hLW _ iz9)
  obtain ⟨d10, i10, hK10⟩ := u_known (C := RX10) (T := TX10) (N := 11) (n := 11) hLW inX10 (hLW _ iz10)
  obtain ⟨d11, i11, hK11⟩ := u_known (C := RX11) (T := TX11) (N := 51) (n := 51) hLW inX11 (hLW _ iz11)
  obtain ⟨a0, hR0⟩ := arr_of (ty := .char) (fun _ _ h => h) (hLW _ ay_char)
  obtain ⟨a1, hR1⟩ := arr_of (ty := .int) (fun _ _ h => h) (hLW _ ay_int)
  obtain ⟨a2, hR2⟩ := arr_of (ty := .long) (fun _ _ h => h) (hLW _ ay_long)
  obtain ⟨a3, hR3⟩ := arr_of (ty := .boolean) (fun _ _ h => h) (hLW _ ay_boolean)
  have hO4 : va_AO "LastWord$Formula" s := va_AO.of (A := #[Value.ref b]) (hts _ (List.mem_append_right _ (tb1 _ (List.mem_of_getElem? (i := 46) rfl))))
  obtain ⟨a4, hR4⟩ := arr_ov (args := #[Value.ref b]) (va_AO.use hO4)
  have hO5 : va_AO "LastWord$Told" s := va_AO.of (A := #[Value.ref b]) (hts _ (List.mem_append_right _ (tb2 _ (List.mem_of_getElem? (i := 51) rfl))))
  obtain ⟨a5, hR5⟩ := arr_ov (args := #[Value.ref b]) (va_AO.use hO5)
  obtain ⟨D, hKc⟩ : ∃ D : va_G, ∀ (k : Nat) (q : vw_C), vwCl[k]? = some q → u_Kn s q.1 q.2.1 q.2.2 (D.1 k) (D.2 k) := by
    refine ⟨(fun k => [d0, d1, d2, d3, d4, d5, d6, d7, d8, d9, d10, d11].getD k 0, fun k => [i0, i1, i2, i3, i4, i5, i6, i7, i8, i9, i10, i11].getD k (fun _ => 0)), ?_⟩
    intro k q hq
    match k, hq with
    | 0, hq => cases hq; exact hK0
    | 1, hq => cases hq; exact hK1
    | 2, hq => cases hq; exact hK2
    | 3, hq => cases hq; exact hK3
    | 4, hq => cases hq; exact hK4
    | 5, hq => cases hq; exact hK5
    | 6, hq => cases hq; exact hK6
    | 7, hq => cases hq; exact hK7
    | 8, hq => cases hq; exact hK8
    | 9, hq => cases hq; exact hK9
    | 10, hq => cases hq; exact hK10
    | 11, hq => cases hq; exact hK11
    | k + 12, hq => simp [vwCl] at hq
  obtain ⟨cy, hcy⟩ : ∃ cy : Nat → ClassId, cy 0 = a0 ∧ cy 1 = a1 ∧ cy 2 = a2 ∧ cy 3 = a3 ∧ cy 4 = a4 ∧ cy 5 = a5 := ⟨fun k => [a0, a1, a2, a3, a4, a5].getD k 0, rfl, rfl, rfl, rfl, rfl, rfl⟩
  obtain ⟨e0, e1, e2, e3, e4, e5⟩ := hcy
  have hK : va_K D vwCl (Tys cy) s := by
    refine ⟨hKc, ?_⟩
    intro k q hq
    match k, hq with
    | 0, hq => cases hq; rw [show cy 0 = a0 from e0]; exact hR0
    | 1, hq => cases hq; rw [show cy 1 = a1 from e1]; exact hR1
    | 2, hq => cases hq; rw [show cy 2 = a2 from e2]; exact hR2
    | 3, hq => cases hq; rw [show cy 3 = a3 from e3]; exact hR3
    | 4, hq => cases hq; rw [show cy 4 = a4 from e4]; exact hR4
    | 5, hq => cases hq; rw [show cy 5 = a5 from e5]; exact hR5
    | k + 6, hq => simp [Tys] at hq
  obtain ⟨t0, v0, hT0⟩ := va_Tof (args := #[Value.ref b]) (s := s) (tm := .static "LastWord" "PLACES" "[I") (ty := .int) (N := 3) (f := fun j => .int (k3 j)) (A := fun q : Nat => s.heap.size ≤ q) (by decide) (hfl _ (by decide +kernel)) (va_eqt (hfl _ (by decide +kernel))) (fun j hj => va_eqt (hfl _ (nar_P j hj))) hA
  obtain ⟨t1, v1, hT1⟩ := va_Tof (args := #[Value.ref b]) (s := s) (tm := .static "LastWordModel" "THREES" "[I") (ty := .int) (N := 4) (f := fun j => .int (k4 j)) (A := fun q : Nat => s.heap.size ≤ q) (by decide) (hfl _ (by decide +kernel)) (va_eqt (hfl _ (by decide +kernel))) (fun j hj => va_eqt (hfl _ (nar_T j hj))) hA
  have hZ0 := va_Zof (A := fun q : Nat => s.heap.size ≤ q) (hts _ (List.mem_append_right _ (tb4 _ (List.mem_of_getElem? (i := 32) rfl)))) (hts _ (List.mem_append_right _ (tb1 _ (List.mem_of_getElem? (i := 1) rfl)))) v0 hA
  have hZ1 := va_Zof (A := fun q : Nat => s.heap.size ≤ q) (hts _ (List.mem_append_right _ (tb8 _ (List.mem_of_getElem? (i := 185) rfl)))) (hts _ (List.mem_append_right _ (tb1 _ (List.mem_of_getElem? (i := 11) rfl)))) v1 hA
  obtain ⟨adK, adV, hSt, hev⟩ := vk_Sof (args := #[Value.ref b]) (s := s) (N := 3) (tm := tmS) (len := lenS) (byt := bytS) (A := fun q : Nat => s.heap.size ≤ q) (by decide) (fun i hi => hfl _ (nar_S1 i hi)) (fun i hi => hfl _ (nar_S2 i hi)) (fun i hi => hfl _ (nar_S3 i hi)) (fun i hi => hfl _ (nar_S4 i hi)) (fun i hi j hj => hfl _ (nar_S5 i hi j hj)) (fun i j hi hj hn => (nar_S6 i hi j hj hn).imp (hfl _) (hfl _)) hA
  have hC0 := va_Zof (A := fun q : Nat => s.heap.size ≤ q) (hts _ (List.mem_append_right _ (tb3 _ (List.mem_of_getElem? (i := 22) rfl)))) (hts _ (List.mem_append_right _ (tb1 _ (List.mem_of_getElem? (i := 13) rfl)))) (va_eqt (z := 1) (hfl _ (by decide +kernel))) hA
  have hU := vx_Zqof (A := fun q : Nat => s.heap.size ≤ q) (hts _ (List.mem_append_right _ (tb5 _ (List.mem_of_getElem? (i := 195) rfl)))) (hts _ (List.mem_append_right _ (tb1 _ (List.mem_of_getElem? (i := 20) rfl)))) (hfl _ (by decide +kernel)) hA
  have hN := vx_Zqof (A := fun q : Nat => s.heap.size ≤ q) (hts _ (List.mem_append_right _ (tb5 _ (List.mem_of_getElem? (i := 197) rfl)))) (hts _ (List.mem_append_right _ (tb1 _ (List.mem_of_getElem? (i := 20) rfl)))) (hfl _ (by decide +kernel)) hA
  have hQ := va_Zqof (A := fun q : Nat => s.heap.size ≤ q) (hts _ (List.mem_append_right _ (tb3 _ (List.mem_of_getElem? (i := 38) rfl)))) (hts _ (List.mem_append_right _ (tb1 _ (List.mem_of_getElem? (i := 15) rfl)))) (hfl _ (by decide +kernel)) hA
  obtain ⟨kc, k0, k1, kK, kV⟩ : ∃ kc : Nat → Nat, kc 0 = t0 ∧ kc 1 = t1 ∧ (∀ i, i < 3 → kc (2 + i) = adK i) ∧ (∀ i, i < 3 → kc (5 + i) = adV i) := by
    refine ⟨fun k => if k = 0 then t0 else if k = 1 then t1 else if k < 5 then adK (k - 2) else adV (k - 5), rfl, rfl, ?_, ?_⟩
    · intro i hi
      have h1 : ¬ 2 + i = 0 := by omega
      have h2 : ¬ 2 + i = 1 := by omega
      have h3 : 2 + i < 5 := by omega
      have h4 : 2 + i - 2 = i := by omega
      show (if 2 + i = 0 then t0 else if 2 + i = 1 then t1 else if 2 + i < 5 then adK (2 + i - 2) else adV (2 + i - 5)) = adK i
      rw [if_neg h1, if_neg h2, if_pos h3, h4]
    · intro i hi
      have h1 : ¬ 5 + i = 0 := by omega
      have h2 : ¬ 5 + i = 1 := by omega
      have h3 : ¬ 5 + i < 5 := by omega
      have h4 : 5 + i - 5 = i := by omega
      show (if 5 + i = 0 then t0 else if 5 + i = 1 then t1 else if 5 + i < 5 then adK (5 + i - 2) else adV (5 + i - 5)) = adV i
      rw [if_neg h1, if_neg h2, if_neg h3, h4]
  have hS3 : vk_S 3 lenS bytS (fun i => kc (2 + i)) (fun i => kc (5 + i)) (fun q : Nat => s.heap.size ≤ q) s s.heap := by
    refine ⟨fun i hi => ?_, fun i j hi hj he => hSt.2 i j hi hj ?_⟩
    · show va_O _ (kc (2 + i)) _ _ _ ∧ va_OF _ _ _ _ (kc (2 + i)) _ _ _ ∧ va_OF _ _ _ (.ref (kc (5 + i))) (kc (2 + i)) _ _ _ ∧ va_T _ (kc (5 + i)) _ _ _ _ _
      rw [kK i hi, kV i hi]
      exact hSt.1 i hi
    · have he : kc (2 + i) = kc (2 + j) := he
      rw [kK i hi, kK j hj] at he
      exact he
  have hR77 : vk_R "LastWord$Tokens" 77 "thing states start cost stone sort worth chance spring is nobody bar life springs not and or age" (kc 2) s := vk_R.of (A := #[Value.ref b]) (hts _ (List.mem_append_right _ (tb3 _ (List.mem_of_getElem? (i := 12) rfl)))) (by rw [kK 0 (by decide)]; exact hev 0 (by decide))
  have hR63 : vk_R "LastWord$Tokens" 63 "()<=+-*;" (kc 3) s := vk_R.of (A := #[Value.ref b]) (hts _ (List.mem_append_right _ (tb3 _ (List.mem_of_getElem? (i := 77) rfl)))) (by rw [kK 1 (by decide)]; exact hev 1 (by decide))
  have hR404 : vk_R "LastWord" 404 "there is no such thing to tell of" (kc 4) s := vk_R.of (A := #[Value.ref b]) (hts _ (List.mem_append_right _ (tb5 _ (List.mem_of_getElem? (i := 207) rfl)))) (by rw [kK 2 (by decide)]; exact hev 2 (by decide))
  have hFW : FWs s := fun w hw => va_Nw.of (A := #[Value.ref b]) (faceT w (List.mem_filter.mp hw).2) (hts w (List.mem_filter.mp hw).1)
  have hNf : Nf s := ⟨va_Nw.of (A := #[Value.ref b]) rfl (hts _ (List.mem_append_right _ (tb4 _ (List.mem_of_getElem? (i := 31) rfl)))), va_Nw.of (A := #[Value.ref b]) rfl (hts _ (List.mem_append_right _ (tb4 _ (List.mem_of_getElem? (i := 79) rfl)))), va_Nw.of (A := #[Value.ref b]) rfl (hts _ (List.mem_append_right _ (tb6 _ (List.mem_of_getElem? (i := 109) rfl))))⟩
  have hSS : St kc (fun q : Nat => s.heap.size ≤ q) s s.heap := ⟨⟨by rw [k0]; exact hZ0, by rw [k0]; exact hT0, by rw [k1]; exact hZ1, by rw [k1]; exact hT1, hS3, hC0, hU, hN, hQ⟩, hFW, hNf, hR77, hR63, hR404, hO4, hO5⟩
  have E : CallFix p m c cL_law 8 s #[Value.ref b] LW RL := ⟨hx, hb, hml, hown, hLW⟩
  have F : Fx D cy kc (fun q => s.heap.size ≤ q) s := ⟨hK, fun _ h => h, hSS⟩
  have hw : Wd D cy (fun q => s.heap.size ≤ q) s s.heap [] Se := ⟨fun k q h => by simp [PW, va_pl, Se] at h, ⟨fun i j p q h => by simp [PW, va_pl, Se] at h, fun k q h => by simp [PW, va_pl, Se] at h⟩, va_S.rf⟩
  have hl := lv_entry ([.ref b]) (n := 8) (Nat.le_of_ble_eq_true rfl)
  rw [lg_entry_eq]
  generalize (lg_sl ([.ref b]) ++ List.replicate (8 - (lg_sl ([.ref b])).length) Slot.unset).toArray = ls at hl ⊢
  have hl : lv_has ls 8 [(0, .ref b)] := hl
  have h := hpure
  refine n_o E F hw cf10 kk_L_8 iz10 ic10 df10 (Nat.le_of_ble_eq_true rfl) (Nat.le_of_ble_eq_true rfl) dL_law_0 (fun q1 H S1 e1 hq1 hw t_q1 hG => ?_)
  replace h := h q1 hq1 S1 e1
  refine lv_dup hx hb dL_law_3 rfl ?_
  refine g_I E F hw [] (k_X10_init l D cy kc q1 S1 h t_q1) mk_X10_init ik_X10_init rfl ml_L_75 ⟨by decide, by decide⟩ rfl hl.1 rfl (Nat.le_of_ble_eq_true rfl) dL_law_4 ⟨(Nat.le_of_ble_eq_true rfl), (Nat.le_of_ble_eq_true rfl)⟩ (fun S2 H locs h hw hG => ?_)
  have t_q1 := hG.t t_q1
  refine lv_astore_n (lv' := [(1, .ref q1), (0, .ref b)]) hx hb dL_law_7 rfl hl (by decide) rfl (fun ls hl => ?_)
  refine n_o E F hw cf11 kk_L_76 iz11 ic11 df11 (Nat.le_of_ble_eq_true rfl) (Nat.le_of_ble_eq_true rfl) dL_law_8 (fun q2 H S3 e3 hq2 hw t_q2 hG => ?_)
  replace h := h q2 hq2 S3 e3
  have t_q1 := hG.t t_q1
  refine lv_dup hx hb dL_law_11 rfl ?_
  refine g_I E F hw [] (k_X11_init l D cy kc q2 S3 h t_q2) mk_X11_init ik_X11_init rfl ml_L_78 ⟨by decide, by decide⟩ rfl hl.1 rfl (Nat.le_of_ble_eq_true rfl) dL_law_12 ⟨(Nat.le_of_ble_eq_true rfl), (Nat.le_of_ble_eq_true rfl)⟩ (fun S4 H locs h hw hG => ?_)
  have t_q1 := hG.t t_q1
  have t_q2 := hG.t t_q2
  refine lv_astore_n (lv' := [(2, .ref q2), (1, .ref q1), (0, .ref b)]) hx hb dL_law_15 rfl hl (by decide) rfl (fun ls hl => ?_)
  refine lv_iconst (v := 1) hx hb dL_law_16 (by decide) ?_
  refine n_long E F hw (n := 1) (N := 1) (by decide) (by decide) (by decide) (Nat.le_of_ble_eq_true rfl) (Nat.le_of_ble_eq_true rfl) dL_law_17 (fun q3 H S5 e5 hq3 hw t_q3 hG => ?_)
  replace h := h q3 hq3 S5 e5
  have t_q1 := hG.t t_q1
  have t_q2 := hG.t t_q2
  refine lv_astore_n (lv' := [(3, .ref q3), (2, .ref q2), (1, .ref q1), (0, .ref b)]) hx hb dL_law_19 rfl hl (by decide) rfl (fun ls hl => ?_)
  refine lv_iconst (v := 0) hx hb dL_law_20 (by decide) ?_
  refine lv_istore (lv' := [(4, .int 0), (3, .ref q3), (2, .ref q2), (1, .ref q1), (0, .ref b)]) hx hb dL_law_21 hl (by decide) rfl (fun ls hl => ?_)
  exact law_loop hst E F hX hbl hr hlocks q1 q2 q3 514 0 S5 _ _ _ 0 h rfl hw t_q1 t_q2 t_q3 (lv_sub hl [4, 3, 2, 1, 0] rfl)
set_option maxHeartbeats 4000000 in
theorem lw_walk (l : Launch) (hst : l.stackTraces = false) (hpure : ∀ (L : Nat) (xs : Nat → Int32), L ≤ 4096 → glaw L xs) (b : Addr) (xs : List Int32) : MetFree l x (headSpec (Jvm.Cond.code x code maxLocals ret :: tables_1) room_1) (lw_P b xs) (fun _ _ _ _ _ => True) lw_Q := by
  refine MetFree.of_bodyS (code := code) (maxLocals := maxLocals) (ret := ret) (by decide) ?_ ?_
  · intro args s m h hn
    obtain ⟨meth, c, h1, h2, h3, h4, h5, h6, -, -⟩ := Cond.code_spec hn (atoms_spec (ws := Jvm.Cond.code x code maxLocals ret :: tables_1) h _ List.mem_cons_self)
    exact ⟨meth, c, h1, h2, h3, h4, h5, h6⟩
  · intro p e s m args below meth c s₁ B hml0 hP _
    obtain ⟨rfl, hx, hbd, hgv⟩ := hP
    obtain ⟨scr, harrAt, hlist, hof, hsmall⟩ := hx
    obtain ⟨hcb, hkn, -, -⟩ := State.arrayAt?_spec harrAt
    have hown : s.vm.findClass R_law = some m.cls := findClass_of_methodNamed B.named
    have hts0 : ∀ c ∈ (Jvm.Cond.code x code maxLocals ret :: tables_1), c.before #[Value.ref b] s = true := atoms_spec (ws := Jvm.Cond.code x code maxLocals ret :: tables_1) B.pre
    have hts : ∀ w ∈ lw_tbl, w.before #[Value.ref b] s = true := k2_hts_sels lw_privs (fun w hw => hts0 w (List.mem_cons_of_mem _ hw)) lw_privs_ok
    have hml : c.maxLocals = 8 := B.maxLocals_eq (hts0 _ List.mem_cons_self)
    have X₀ : Stand p l e room_1 s m #[Value.ref b] below meth c s₁ [] 0 0 := Stand.of_body B
    have hh0 : s₁.heap = s.heap := by rw [B.state]; rfl
    have hsz : scr.slots.size = xs.length := by rw [← Array.length_toList, hlist, List.length_map]
    have hval : ∀ j : Nat, j < xs.length → scr.slots[j]? = some (.int (xs.getD j 0)) := fun j hj => by
      rw [← Array.getElem?_toList, hlist]
      simp [hj]
    have hbl : b < s.heap.size := (Array.getElem?_eq_some_iff.mp hcb).1
    have hX : va_X b xs.length (fun j => xs.getD j 0) s s.heap := ⟨scr, hcb, hof, hkn, hsz, hval⟩
    have K : W p l e room_1 s m #[Value.ref b] below meth c s₁.heap [] 0 0 (lw_Z below #[Value.ref b] s) (entryFrame m ([Value.ref b] : List Value).toArray 8) := by
      rw [hh0]
      exact whole_start l hst hbd (hpure _ _ hbd) ⟨B.exec, B.bytes, B.returns, hml, hown, hts, hX, hbl, B.notSynchronized, hgv⟩
    obtain ⟨t, a1, o, b1, b2, b3⟩ := K s₁ rfl X₀
    exact ⟨t, o, a1, b1, b2, b3⟩
theorem lw_pre_spec {args : Array Value} {s : State} (h : (Jvm.Cond.and given_1 narrow_1).before args s = true) (hr : rest_1_c.before args s = true) : ∃ (b : Addr) (xs : List Int32), lw_P b xs args s := by
  have hs := flat_of_before _ h
  have hq := flat_of_before _ hr
  have hc : (Cond.count 1).before args s = true := hs _ (by decide +kernel)
  have harr : (Cond.arrayOf (.arg 0) .int).before args s = true := hs _ (by decide +kernel)
  have hle : (Cond.le (.length (.arg 0)) (.int 4096)).before args s = true := hs _ (by decide +kernel)
  have hlen : (Cond.isInt (.length (.arg 0))).before args s = true := hq _ (by decide +kernel)
  have hall : (Cond.all (.arg 0) (.isInt (.elem (.arg 0) (.index 0)))).before args s = true := hq _ (by decide +kernel)
  obtain ⟨b, xs, hb, hx⟩ := State.ints_of_pre rfl harr hlen hall
  have hsm : xs.length < 2 ^ 31 := hx.choose_spec.2.2.2
  have hev : (Term.length (.arg 0)).eval args s none [] s = some (.int xs.length.toInt32) := hx.length_eval hb
  have hv := Cond.le_ints hev (show (Term.int 4096).eval args s none [] s = some (.int 4096) from rfl)
  have hd : xs.length.toInt32 ≤ 4096 := by
    simpa [Cond.before, Cond.holds, hv] using hle
  have hN : xs.length ≤ 4096 := (Int32.ofNat_le_ofNat hsm (by decide)).mp (show Int32.ofNat xs.length ≤ Int32.ofNat 4096 from hd)
  exact ⟨b, xs, Cond.one_arg hc (show args[0]? = some (.ref b) from hb), hx, hN, h⟩
theorem lw_comes (l : Launch) (hst : l.stackTraces = false) (hpure : ∀ (L : Nat) (xs : Nat → Int32), L ≤ 4096 → glaw L xs) : Comes l x (Jvm.Cond.code x code maxLocals ret :: tables_1) room_1 (fun tb e args s => Calls_1 tb e args s ∧ rest_1 tb e args s ∧ Pre_1 tb e args s)
    (fun _ _ args s o t => lw_Q args s o t) := by
  intro p e ha hc hk s m args below hf hfit hheap happ hpre
  obtain ⟨b, xs, hP⟩ := lw_pre_spec hpre.2.2 hpre.2.1
  obtain ⟨k, o, h1, h2, h3, hQ⟩ := lw_walk l hst hpure b xs p e ha hc hk s m args below hf ((Spec.applies_iff_loose hf).mp happ).1 hP trivial
  exact ⟨k, o, h1, h2, h3, hQ⟩
theorem lw_frame {s t : State} {o : Outcome} {args : Array Value} (h : Framed s o t [] 601024 7293034) :
    Framed s o t (fieldLocs frame_1_writes args s ++ arrayLocs frame_1_arrays args s ++ staticLocs frame_1_statics s) 601024 7293034 := h
theorem lw_limb (hpure : ∀ (L : Nat) (xs : Nat → Int32), L ≤ 4096 → glaw L xs) (L : Cond) (hL : ∀ (args : Array Value) (s t : State), L.after args s (.returned (some (.int 1))) t = true) :
    ArmFor flags0 classFile x code maxLocals ret World_1 tables_1 room_1 Calls_1 rest_1 Pre_1
      (fun tb e a s o t => postC L tb e a s o t ∧ Framed s o t (fieldLocs frame_1_writes a s ++ arrayLocs frame_1_arrays a s ++ staticLocs frame_1_statics s) 601024 7293034) := by
  intro l hfg _ _ p e ha hc hk s m args below hf hfit hheap happ hpre
  obtain ⟨k, o, h1, h2, h3, rfl, hF⟩ := lw_comes l (by unfold Launch.stackTraces; rw [hfg]; decide +kernel) hpure p e ha hc hk s m args below hf hfit hheap happ hpre
  exact ⟨k, _, h1, h2, h3, hL args s _, lw_frame hF⟩
theorem i_vc_of (hpure : ∀ (L : Nat) (xs : Nat → Int32), L ≤ 4096 → glaw L xs) : Claimed_1_1 ∧ Claimed_1_2 := ⟨lw_limb hpure limb_1_1 (fun args s t => by simp [limb_1_1, Cond.after, Cond.holds, Cond.value]), lw_limb hpure limb_1_2 (fun args s t => Cond.after_iff.mpr (by
  first | (rw [show limb_1_2 = Cond.eq .result (.int 1) from rfl, Cond.eq_ints (x := 1) (y := 1) rfl rfl]; simp; done) | (simp [limb_1_2, Cond.value, Term.eval]; done)))⟩
