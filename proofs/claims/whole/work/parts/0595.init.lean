def f_X11_init_t419 (u0 : Nat) (S3 : PS) : Option (Unit × PS) :=
  (rk S3 (sR S3 u0 10) 13).bind fun b95 => if ib (27 : Int32) (sN S3 b95) = true then (rk (pI S3 b95 (Int32.toNatClampNeg (27 : Int32)) (4 : Int32)) (sR (pI S3 b95 (Int32.toNatClampNeg (27 : Int32)) (4 : Int32)) u0 10) 13).bind fun b97 => if ib (28 : Int32) (sN (pI S3 b95 (Int32.toNatClampNeg (27 : Int32)) (4 : Int32)) b97) = true then some ((), pI (pI (pI (pI S3 b95 (Int32.toNatClampNeg (27 : Int32)) (4 : Int32)) b97 (Int32.toNatClampNeg (28 : Int32)) (8 : Int32)) u0 19 (1 : Int32)) u0 20 (1 : Int32)) else none else none
def g_X11_init (o0 : Nat) (S : PS) (post : Unit → PS → Prop) : Prop :=
  ∀ q1 : Nat, q1 ∉ (S).1 → ∀ S2 : PS, S2 = nw S q1 13 1000 → (∀ q3 : Nat, q3 ∉ (pR S2 o0 1 (some q1)).1 → ∀ S4 : PS, S4 = nw (pR S2 o0 1 (some q1)) q3 13 1002 → (∀ q5 : Nat, q5 ∉ (pR S4 o0 4 (some q3)).1 → ∀ S6 : PS, S6 = nw (pR S4 o0 4 (some q3)) q5 13 1002 → (∀ q7 : Nat, q7 ∉ (pR S6 o0 5 (some q5)).1 → ∀ S8 : PS, S8 = nw (pR S6 o0 5 (some q5)) q7 14 1002 → (∀ q9 : Nat, q9 ∉ (pR S8 o0 6 (some q7)).1 → ∀ S10 : PS, S10 = nw (pR S8 o0 6 (some q7)) q9 14 18 → ((ib (0 : Int32) (sN S10 q9) = true) ∧ ((ib (1 : Int32) (sN (pJ S10 q9 (Int32.toNatClampNeg (0 : Int32)) (37901290 : Int64)) q9) = true) ∧ ((ib (2 : Int32) (sN (pJ (pJ S10 q9 (Int32.toNatClampNeg (0 : Int32)) (37901290 : Int64)) q9 (Int32.toNatClampNeg (1 : Int32)) (1355096640 : Int64)) q9) = true) ∧ (∀ S14 : PS, S14 = pJ (pJ (pJ S10 q9 (Int32.toNatClampNeg (0 : Int32)) (37901290 : Int64)) q9 (Int32.toNatClampNeg (1 : Int32)) (1355096640 : Int64)) q9 (Int32.toNatClampNeg (2 : Int32)) (36624174 : Int64) → ((ib (3 : Int32) (sN S14 q9) = true) ∧ ((ib (4 : Int32) (sN (pJ S14 q9 (Int32.toNatClampNeg (3 : Int32)) (173217 : Int64)) q9) = true) ∧ ((ib (5 : Int32) (sN (pJ (pJ S14 q9 (Int32.toNatClampNeg (3 : Int32)) (173217 : Int64)) q9 (Int32.toNatClampNeg (4 : Int32)) (36643177 : Int64)) q9) = true) ∧ (∀ S18 : PS, S18 = pJ (pJ (pJ S14 q9 (Int32.toNatClampNeg (3 : Int32)) (173217 : Int64)) q9 (Int32.toNatClampNeg (4 : Int32)) (36643177 : Int64)) q9 (Int32.toNatClampNeg (5 : Int32)) (983628 : Int64) → ((ib (6 : Int32) (sN S18 q9) = true) ∧ ((ib (7 : Int32) (sN (pJ S18 q9 (Int32.toNatClampNeg (6 : Int32)) (43890888 : Int64)) q9) = true) ∧ ((ib (8 : Int32) (sN (pJ (pJ S18 q9 (Int32.toNatClampNeg (6 : Int32)) (43890888 : Int64)) q9 (Int32.toNatClampNeg (7 : Int32)) (223095094 : Int64)) q9) = true) ∧ (∀ S22 : PS, S22 = pJ (pJ (pJ S18 q9 (Int32.toNatClampNeg (6 : Int32)) (43890888 : Int64)) q9 (Int32.toNatClampNeg (7 : Int32)) (223095094 : Int64)) q9 (Int32.toNatClampNeg (8 : Int32)) (1348446359 : Int64) → ((ib (9 : Int32) (sN S22 q9) = true) ∧ ((ib (10 : Int32) (sN (pJ S22 q9 (Int32.toNatClampNeg (9 : Int32)) (352 : Int64)) q9) = true) ∧ ((ib (11 : Int32) (sN (pJ (pJ S22 q9 (Int32.toNatClampNeg (9 : Int32)) (352 : Int64)) q9 (Int32.toNatClampNeg (10 : Int32)) (999049827 : Int64)) q9) = true) ∧ (∀ S26 : PS, S26 = pJ (pJ (pJ S22 q9 (Int32.toNatClampNeg (9 : Int32)) (352 : Int64)) q9 (Int32.toNatClampNeg (10 : Int32)) (999049827 : Int64)) q9 (Int32.toNatClampNeg (11 : Int32)) (2793 : Int64) → ((ib (12 : Int32) (sN S26 q9) = true) ∧ ((ib (13 : Int32) (sN (pJ S26 q9 (Int32.toNatClampNeg (12 : Int32)) (620384 : Int64)) q9) = true) ∧ ((ib (14 : Int32) (sN (pJ (pJ S26 q9 (Int32.toNatClampNeg (12 : Int32)) (620384 : Int64)) q9 (Int32.toNatClampNeg (13 : Int32)) (49892515302 : Int64)) q9) = true) ∧ (∀ S30 : PS, S30 = pJ (pJ (pJ S26 q9 (Int32.toNatClampNeg (12 : Int32)) (620384 : Int64)) q9 (Int32.toNatClampNeg (13 : Int32)) (49892515302 : Int64)) q9 (Int32.toNatClampNeg (14 : Int32)) (19741 : Int64) → ((ib (15 : Int32) (sN S30 q9) = true) ∧ ((ib (16 : Int32) (sN (pJ S30 q9 (Int32.toNatClampNeg (15 : Int32)) (1891 : Int64)) q9) = true) ∧ ((ib (17 : Int32) (sN (pJ (pJ S30 q9 (Int32.toNatClampNeg (15 : Int32)) (1891 : Int64)) q9 (Int32.toNatClampNeg (16 : Int32)) (573 : Int64)) q9) = true) ∧ (∀ S34 : PS, S34 = pJ (pJ (pJ S30 q9 (Int32.toNatClampNeg (15 : Int32)) (1891 : Int64)) q9 (Int32.toNatClampNeg (16 : Int32)) (573 : Int64)) q9 (Int32.toNatClampNeg (17 : Int32)) (1633 : Int64) → (∀ q35 : Nat, q35 ∉ (pR S34 o0 9 (some q9)).1 → ∀ S36 : PS, S36 = nw (pR S34 o0 9 (some q9)) q35 13 480 → (∀ q37 : Nat, q37 ∉ (pR S36 o0 10 (some q35)).1 → ∀ S38 : PS, S38 = nw (pR S36 o0 10 (some q35)) q37 13 6600 → (∀ q39 : Nat, q39 ∉ (pR S38 o0 11 (some q37)).1 → ∀ S40 : PS, S40 = nw (pR S38 o0 11 (some q37)) q39 13 6600 → (∀ q41 : Nat, q41 ∉ (pR S40 o0 12 (some q39)).1 → ∀ S42 : PS, S42 = nw (pR S40 o0 12 (some q39)) q41 14 7 → (∀ q43 : Nat, q43 ∉ (pR S42 o0 14 (some q41)).1 → ∀ S44 : PS, S44 = nw (pR S42 o0 14 (some q41)) q43 15 4 → (∀ q45 : Nat, q45 ∉ (pR S44 o0 15 (some q43)).1 → ∀ S46 : PS, S46 = nw (pR S44 o0 15 (some q43)) q45 13 5 → (∀ q47 : Nat, q47 ∉ (pR S46 o0 21 (some q45)).1 → ∀ S48 : PS, S48 = nw (pR S46 o0 21 (some q45)) q47 13 1100 → (∀ q49 : Nat, q49 ∉ (pR S48 o0 22 (some q47)).1 → ∀ S50 : PS, S50 = nw (pR S48 o0 22 (some q47)) q49 13 10368 → (∀ q51 : Nat, q51 ∉ (pR S50 o0 23 (some q49)).1 → ∀ S52 : PS, S52 = nw (pR S50 o0 23 (some q49)) q51 15 27 → (∀ q53 : Nat, q53 ∉ (pR S52 o0 24 (some q51)).1 → ∀ S54 : PS, S54 = nw (pR S52 o0 24 (some q51)) q53 13 1728 → (∀ q55 : Nat, q55 ∉ (pR S54 o0 25 (some q53)).1 → ∀ S56 : PS, S56 = nw (pR S54 o0 25 (some q53)) q55 14 12852 → (∀ q57 : Nat, q57 ∉ (pR S56 o0 26 (some q55)).1 → ∀ S58 : PS, S58 = nw (pR S56 o0 26 (some q55)) q57 14 8 → ((ib (0 : Int32) (sN S58 q57) = true) ∧ ((ib (1 : Int32) (sN (pJ S58 q57 (Int32.toNatClampNeg (0 : Int32)) (1 : Int64)) q57) = true) ∧ ((ib (2 : Int32) (sN (pJ (pJ S58 q57 (Int32.toNatClampNeg (0 : Int32)) (1 : Int64)) q57 (Int32.toNatClampNeg (1 : Int32)) (6 : Int64)) q57) = true) ∧ (∀ S62 : PS, S62 = pJ (pJ (pJ S58 q57 (Int32.toNatClampNeg (0 : Int32)) (1 : Int64)) q57 (Int32.toNatClampNeg (1 : Int32)) (6 : Int64)) q57 (Int32.toNatClampNeg (2 : Int32)) (36 : Int64) → ((ib (3 : Int32) (sN S62 q57) = true) ∧ ((ib (4 : Int32) (sN (pJ S62 q57 (Int32.toNatClampNeg (3 : Int32)) (216 : Int64)) q57) = true) ∧ ((ib (5 : Int32) (sN (pJ (pJ S62 q57 (Int32.toNatClampNeg (3 : Int32)) (216 : Int64)) q57 (Int32.toNatClampNeg (4 : Int32)) (1296 : Int64)) q57) = true) ∧ (∀ S66 : PS, S66 = pJ (pJ (pJ S62 q57 (Int32.toNatClampNeg (3 : Int32)) (216 : Int64)) q57 (Int32.toNatClampNeg (4 : Int32)) (1296 : Int64)) q57 (Int32.toNatClampNeg (5 : Int32)) (7776 : Int64) → ((ib (6 : Int32) (sN S66 q57) = true) ∧ ((ib (7 : Int32) (sN (pJ S66 q57 (Int32.toNatClampNeg (6 : Int32)) (46656 : Int64)) q57) = true) ∧ (∀ q69 : Nat, q69 ∉ (pR (pJ (pJ S66 q57 (Int32.toNatClampNeg (6 : Int32)) (46656 : Int64)) q57 (Int32.toNatClampNeg (7 : Int32)) (279936 : Int64)) o0 27 (some q57)).1 → ∀ S70 : PS, S70 = nw (pR (pJ (pJ S66 q57 (Int32.toNatClampNeg (6 : Int32)) (46656 : Int64)) q57 (Int32.toNatClampNeg (7 : Int32)) (279936 : Int64)) o0 27 (some q57)) q69 14 27 → (∀ q71 : Nat, q71 ∉ (pR S70 o0 30 (some q69)).1 → ∀ S72 : PS, S72 = nw (pR S70 o0 30 (some q69)) q71 14 27 → (∀ q73 : Nat, q73 ∉ (pR S72 o0 31 (some q71)).1 → ∀ S74 : PS, S74 = nw (pR S72 o0 31 (some q71)) q73 13 16 → (∀ q75 : Nat, q75 ∉ (pR S74 o0 33 (some q73)).1 → ∀ S76 : PS, S76 = nw (pR S74 o0 33 (some q73)) q75 13 16 → (∀ q77 : Nat, q77 ∉ (pR S76 o0 34 (some q75)).1 → ∀ S78 : PS, S78 = nw (pR S76 o0 34 (some q75)) q77 13 16 → (∀ q79 : Nat, q79 ∉ (pR S78 o0 35 (some q77)).1 → ∀ S80 : PS, S80 = nw (pR S78 o0 35 (some q77)) q79 13 16 → (∀ q81 : Nat, q81 ∉ (pR S80 o0 36 (some q79)).1 → ∀ S82 : PS, S82 = nw (pR S80 o0 36 (some q79)) q81 13 16 → (∀ q83 : Nat, q83 ∉ (pR S82 o0 37 (some q81)).1 → ∀ S84 : PS, S84 = nw (pR S82 o0 37 (some q81)) q83 13 3 → (∀ q85 : Nat, q85 ∉ (pR S84 o0 39 (some q83)).1 → ∀ S86 : PS, S86 = nw (pR S84 o0 39 (some q83)) q85 13 48 → (∀ q87 : Nat, q87 ∉ (pR S86 o0 41 (some q85)).1 → ∀ S88 : PS, S88 = nw (pR S86 o0 41 (some q85)) q87 13 16 → (∀ q89 : Nat, q89 ∉ (pR S88 o0 42 (some q87)).1 → ∀ S90 : PS, S90 = nw (pR S88 o0 42 (some q87)) q89 15 4 → (∀ q91 : Nat, q91 ∉ (pR S90 o0 48 (some q89)).1 → ∀ S92 : PS, S92 = nw (pR S90 o0 48 (some q89)) q91 13 4 → (∀ q93 : Nat, q93 ∉ (pR S92 o0 49 (some q91)).1 → ∀ S94 : PS, S94 = nw (pR S92 o0 49 (some q91)) q93 13 192 → (∃ qq, f_X11_init_t419 o0 (pR S94 o0 50 (some q93)) = some qq ∧ post qq.1 qq.2))))))))))))))))))))))))))))))))))))))))))))))))))))))))))))))))
set_option maxHeartbeats 4000000 in
set_option maxRecDepth 100000 in
theorem k_X11_init (l : Launch) (D : va_G) (cy : Nat → ClassId) (kc : Nat → Nat) (o0 : Nat) (S : PS) {post : Unit → PS → Prop} (h : g_X11_init o0 S post) (t_o0 : tD S o0 11) : HV l D cy kc yX11_init cX11_init 1 (rmK 2 60 30 44204) [.ref o0] S post := by
  refine K_body (Qc := fun sz => GV D cy S post sz) (by decide) (Nat.le_of_ble_eq_true rfl) ?_
  intro p e s m below meth c A ls args E hr hlk hnm hA F hw hl
  have hx := E.1
  have hb := E.2.1
  have hl : lv_has ls 1 [(0, .ref o0)] := hl
  have hg : Gr S S := Gr.rf
  have T419 : ∀ (u0 : Nat) (S3 : PS) (qq : Unit × PS) (H : Heap) (locs : List Loc) (ls : Array Slot), post qq.1 qq.2 → (f_X11_init_t419 u0 S3).bind some = some qq → Wd D cy A s H locs S3 → Gr S S3 → tD S3 u0 11 → lv_has ls 1 [(0, .ref u0)] → W p l e (rmK 2 60 30 44204) s m args below meth c H locs 30 44204 (MQ below (GV D cy S post s.heap.size) args s 30 44204 A) (F0 m 419 ls []) := by
    intro u0 S3 qq H locs ls hpo h hw hg t_u0 hl
    rw [f_X11_init_t419] at h
    refine lv_aload_n hx hb dX11_init_419 rfl (lv_at hl 0 rfl) ?_
    obtain ⟨b95, r_b95, h⟩ := bb h
    obtain ⟨r_b95, t_b95⟩ := rk_some r_b95
    refine g_R E F hw t_u0 cf11 fk_X11_73 dX11_init_420 rfl r_b95 ?_
    refine lv_bipush (v := 27) hx hb dX11_init_423 (by decide) ?_
    refine lv_iconst (v := 4) hx hb dX11_init_425 (by decide) ?_
    obtain ⟨c96, h⟩ := bg h
    refine b_i E F hw t_b95 c96 dX11_init_426 (fun H locs hw => ?_)
    refine lv_aload_n hx hb dX11_init_427 rfl (lv_at hl 0 rfl) ?_
    obtain ⟨b97, r_b97, h⟩ := bb h
    obtain ⟨r_b97, t_b97⟩ := rk_some r_b97
    refine g_R E F hw t_u0 cf11 fk_X11_73 dX11_init_428 rfl r_b97 ?_
    refine lv_bipush (v := 28) hx hb dX11_init_431 (by decide) ?_
    refine lv_bipush (v := 8) hx hb dX11_init_433 (by decide) ?_
    obtain ⟨c98, h⟩ := bg h
    refine b_i E F hw t_b97 c98 dX11_init_435 (fun H locs hw => ?_)
    refine lv_aload_n hx hb dX11_init_436 rfl (lv_at hl 0 rfl) ?_
    refine lv_iconst (v := 1) hx hb dX11_init_437 (by decide) ?_
    refine p_I E F hw t_u0 cf11 fk_X11_163 rfl (isB_nar rfl) (isB_fit rfl) dX11_init_438 rfl (fun H locs hw => ?_)
    refine lv_aload_n hx hb dX11_init_441 rfl (lv_at hl 0 rfl) ?_
    refine lv_iconst (v := 1) hx hb dX11_init_442 (by decide) ?_
    refine p_I E F hw t_u0 cf11 fk_X11_167 rfl (isB_nar rfl) (isB_fit rfl) dX11_init_443 rfl (fun H locs hw => ?_)
    obtain rfl := Option.some.inj h
    exact h_V E hr hlk F hA hw hg hpo (Nat.le_of_ble_eq_true rfl) (Nat.le_of_ble_eq_true rfl) dX11_init_446
  rw [g_X11_init] at h
  refine lv_aload_n hx hb dX11_init_0 rfl (lv_at hl 0 rfl) ?_
  refine o_I E hl.1 oi_X11_18 dX11_init_1 (by decide) (Nat.le_of_ble_eq_true rfl) ?_
  refine lv_aload_n hx hb dX11_init_4 rfl (lv_at hl 0 rfl) ?_
  refine lv_sipush (v := 1000) hx hb dX11_init_5 (by decide) ?_
  refine n_int E F hw (n := 1000) (N := 1000) (by decide) (by decide) (Nat.le_of_ble_eq_true rfl) (Nat.le_of_ble_eq_true rfl) (Nat.le_of_ble_eq_true rfl) dX11_init_8 (fun q1 H S2 eS2 hqq1 hw t_q1 hG => ?_)
  replace h := h q1 hqq1 S2 eS2
  have t_o0 := hG.t t_o0
  have hg := hg.tr hG
  refine p_RF E F hw t_o0 cf11 fk_X11_14 rfl hnm rfl rfl rfl dX11_init_10 rfl (fun H locs hw => ?_)
  refine lv_aload_n hx hb dX11_init_13 rfl (lv_at hl 0 rfl) ?_
  refine lv_sipush (v := 1002) hx hb dX11_init_14 (by decide) ?_
  refine n_int E F hw (n := 1002) (N := 1002) (by decide) (by decide) (Nat.le_of_ble_eq_true rfl) (Nat.le_of_ble_eq_true rfl) (Nat.le_of_ble_eq_true rfl) dX11_init_17 (fun q3 H S4 eS4 hqq3 hw t_q3 hG => ?_)
  replace h := h q3 hqq3 S4 eS4
  have t_o0 := hG.t t_o0
  have hg := hg.tr hG
  refine p_RF E F hw t_o0 cf11 fk_X11_24 rfl hnm rfl rfl rfl dX11_init_19 rfl (fun H locs hw => ?_)
  refine lv_aload_n hx hb dX11_init_22 rfl (lv_at hl 0 rfl) ?_
  refine lv_sipush (v := 1002) hx hb dX11_init_23 (by decide) ?_
  refine n_int E F hw (n := 1002) (N := 1002) (by decide) (by decide) (Nat.le_of_ble_eq_true rfl) (Nat.le_of_ble_eq_true rfl) (Nat.le_of_ble_eq_true rfl) dX11_init_26 (fun q5 H S6 eS6 hqq5 hw t_q5 hG => ?_)
  replace h := h q5 hqq5 S6 eS6
  have t_o0 := hG.t t_o0
  have hg := hg.tr hG
  refine p_RF E F hw t_o0 cf11 fk_X11_27 rfl hnm rfl rfl rfl dX11_init_28 rfl (fun H locs hw => ?_)
  refine lv_aload_n hx hb dX11_init_31 rfl (lv_at hl 0 rfl) ?_
  refine lv_sipush (v := 1002) hx hb dX11_init_32 (by decide) ?_
  refine n_long E F hw (n := 1002) (N := 1002) (by decide) (by decide) (Nat.le_of_ble_eq_true rfl) (Nat.le_of_ble_eq_true rfl) (Nat.le_of_ble_eq_true rfl) dX11_init_35 (fun q7 H S8 eS8 hqq7 hw t_q7 hG => ?_)
  replace h := h q7 hqq7 S8 eS8
  have t_o0 := hG.t t_o0
  have hg := hg.tr hG
  refine p_RF E F hw t_o0 cf11 fk_X11_30 rfl hnm rfl rfl rfl dX11_init_37 rfl (fun H locs hw => ?_)
  refine lv_aload_n hx hb dX11_init_40 rfl (lv_at hl 0 rfl) ?_
  refine lv_bipush (v := 18) hx hb dX11_init_41 (by decide) ?_
  refine n_long E F hw (n := 18) (N := 18) (by decide) (by decide) (Nat.le_of_ble_eq_true rfl) (Nat.le_of_ble_eq_true rfl) (Nat.le_of_ble_eq_true rfl) dX11_init_43 (fun q9 H S10 eS10 hqq9 hw t_q9 hG => ?_)
  replace h := h q9 hqq9 S10 eS10
  have t_o0 := hG.t t_o0
  have hg := hg.tr hG
  refine lv_dup hx hb dX11_init_45 rfl ?_
  refine lv_iconst (v := 0) hx hb dX11_init_46 (by decide) ?_
  refine lv_ldc2 hx hb E.2.2.2.1 (E.2.2.2.2 _ kl_X11_34) dX11_init_47 ?_
  obtain ⟨c11, h⟩ := h
  refine b_j E F hw t_q9 c11 dX11_init_50 (fun H locs hw => ?_)
  refine lv_dup hx hb dX11_init_51 rfl ?_
  refine lv_iconst (v := 1) hx hb dX11_init_52 (by decide) ?_
  refine lv_ldc2 hx hb E.2.2.2.1 (E.2.2.2.2 _ kl_X11_36) dX11_init_53 ?_
  obtain ⟨c12, h⟩ := h
  refine b_j E F hw t_q9 c12 dX11_init_56 (fun H locs hw => ?_)
  refine lv_dup hx hb dX11_init_57 rfl ?_
  refine lv_iconst (v := 2) hx hb dX11_init_58 (by decide) ?_
  refine lv_ldc2 hx hb E.2.2.2.1 (E.2.2.2.2 _ kl_X11_38) dX11_init_59 ?_
  obtain ⟨c13, h⟩ := h
  refine b_j E F hw t_q9 c13 dX11_init_62 (fun H locs hw => ?_)
  obtain ⟨S14, eS14⟩ : ∃ z : PS, z = pJ (pJ (pJ S10 q9 (Int32.toNatClampNeg (0 : Int32)) (37901290 : Int64)) q9 (Int32.toNatClampNeg (1 : Int32)) (1355096640 : Int64)) q9 (Int32.toNatClampNeg (2 : Int32)) (36624174 : Int64) := ⟨_, rfl⟩
  replace h := h S14 eS14
  rw [← eS14] at hw
  have t_o0 : tD S14 o0 11 := by rw [eS14]; exact t_o0
  have t_q9 : tD S14 q9 14 := by rw [eS14]; exact t_q9
  have hg : Gr S S14 := by rw [eS14]; exact hg
  refine lv_dup hx hb dX11_init_63 rfl ?_
  refine lv_iconst (v := 3) hx hb dX11_init_64 (by decide) ?_
  refine lv_ldc2 hx hb E.2.2.2.1 (E.2.2.2.2 _ kl_X11_40) dX11_init_65 ?_
  obtain ⟨c15, h⟩ := h
  refine b_j E F hw t_q9 c15 dX11_init_68 (fun H locs hw => ?_)
  refine lv_dup hx hb dX11_init_69 rfl ?_
  refine lv_iconst (v := 4) hx hb dX11_init_70 (by decide) ?_
  refine lv_ldc2 hx hb E.2.2.2.1 (E.2.2.2.2 _ kl_X11_42) dX11_init_71 ?_
  obtain ⟨c16, h⟩ := h
  refine b_j E F hw t_q9 c16 dX11_init_74 (fun H locs hw => ?_)
  refine lv_dup hx hb dX11_init_75 rfl ?_
  refine lv_iconst (v := 5) hx hb dX11_init_76 (by decide) ?_
  refine lv_ldc2 hx hb E.2.2.2.1 (E.2.2.2.2 _ kl_X11_44) dX11_init_77 ?_
  obtain ⟨c17, h⟩ := h
  refine b_j E F hw t_q9 c17 dX11_init_80 (fun H locs hw => ?_)
  obtain ⟨S18, eS18⟩ : ∃ z : PS, z = pJ (pJ (pJ S14 q9 (Int32.toNatClampNeg (3 : Int32)) (173217 : Int64)) q9 (Int32.toNatClampNeg (4 : Int32)) (36643177 : Int64)) q9 (Int32.toNatClampNeg (5 : Int32)) (983628 : Int64) := ⟨_, rfl⟩
  replace h := h S18 eS18
  rw [← eS18] at hw
  have t_o0 : tD S18 o0 11 := by rw [eS18]; exact t_o0
  have t_q9 : tD S18 q9 14 := by rw [eS18]; exact t_q9
  have hg : Gr S S18 := by rw [eS18]; exact hg
  refine lv_dup hx hb dX11_init_81 rfl ?_
  refine lv_bipush (v := 6) hx hb dX11_init_82 (by decide) ?_
  refine lv_ldc2 hx hb E.2.2.2.1 (E.2.2.2.2 _ kl_X11_46) dX11_init_84 ?_
  obtain ⟨c19, h⟩ := h
  refine b_j E F hw t_q9 c19 dX11_init_87 (fun H locs hw => ?_)
  refine lv_dup hx hb dX11_init_88 rfl ?_
  refine lv_bipush (v := 7) hx hb dX11_init_89 (by decide) ?_
  refine lv_ldc2 hx hb E.2.2.2.1 (E.2.2.2.2 _ kl_X11_48) dX11_init_91 ?_
  obtain ⟨c20, h⟩ := h
  refine b_j E F hw t_q9 c20 dX11_init_94 (fun H locs hw => ?_)
  refine lv_dup hx hb dX11_init_95 rfl ?_
  refine lv_bipush (v := 8) hx hb dX11_init_96 (by decide) ?_
  refine lv_ldc2 hx hb E.2.2.2.1 (E.2.2.2.2 _ kl_X11_50) dX11_init_98 ?_
  obtain ⟨c21, h⟩ := h
  refine b_j E F hw t_q9 c21 dX11_init_101 (fun H locs hw => ?_)
  obtain ⟨S22, eS22⟩ : ∃ z : PS, z = pJ (pJ (pJ S18 q9 (Int32.toNatClampNeg (6 : Int32)) (43890888 : Int64)) q9 (Int32.toNatClampNeg (7 : Int32)) (223095094 : Int64)) q9 (Int32.toNatClampNeg (8 : Int32)) (1348446359 : Int64) := ⟨_, rfl⟩
  replace h := h S22 eS22
  rw [← eS22] at hw
  have t_o0 : tD S22 o0 11 := by rw [eS22]; exact t_o0
  have t_q9 : tD S22 q9 14 := by rw [eS22]; exact t_q9
  have hg : Gr S S22 := by rw [eS22]; exact hg
  refine lv_dup hx hb dX11_init_102 rfl ?_
  refine lv_bipush (v := 9) hx hb dX11_init_103 (by decide) ?_
  refine lv_ldc2 hx hb E.2.2.2.1 (E.2.2.2.2 _ kl_X11_52) dX11_init_105 ?_
  obtain ⟨c23, h⟩ := h
  refine b_j E F hw t_q9 c23 dX11_init_108 (fun H locs hw => ?_)
  refine lv_dup hx hb dX11_init_109 rfl ?_
  refine lv_bipush (v := 10) hx hb dX11_init_110 (by decide) ?_
  refine lv_ldc2 hx hb E.2.2.2.1 (E.2.2.2.2 _ kl_X11_54) dX11_init_112 ?_
  obtain ⟨c24, h⟩ := h
  refine b_j E F hw t_q9 c24 dX11_init_115 (fun H locs hw => ?_)
  refine lv_dup hx hb dX11_init_116 rfl ?_
  refine lv_bipush (v := 11) hx hb dX11_init_117 (by decide) ?_
  refine lv_ldc2 hx hb E.2.2.2.1 (E.2.2.2.2 _ kl_X11_56) dX11_init_119 ?_
  obtain ⟨c25, h⟩ := h
  refine b_j E F hw t_q9 c25 dX11_init_122 (fun H locs hw => ?_)
  obtain ⟨S26, eS26⟩ : ∃ z : PS, z = pJ (pJ (pJ S22 q9 (Int32.toNatClampNeg (9 : Int32)) (352 : Int64)) q9 (Int32.toNatClampNeg (10 : Int32)) (999049827 : Int64)) q9 (Int32.toNatClampNeg (11 : Int32)) (2793 : Int64) := ⟨_, rfl⟩
  replace h := h S26 eS26
  rw [← eS26] at hw
  have t_o0 : tD S26 o0 11 := by rw [eS26]; exact t_o0
  have t_q9 : tD S26 q9 14 := by rw [eS26]; exact t_q9
  have hg : Gr S S26 := by rw [eS26]; exact hg
  refine lv_dup hx hb dX11_init_123 rfl ?_
  refine lv_bipush (v := 12) hx hb dX11_init_124 (by decide) ?_
  refine lv_ldc2 hx hb E.2.2.2.1 (E.2.2.2.2 _ kl_X11_58) dX11_init_126 ?_
  obtain ⟨c27, h⟩ := h
  refine b_j E F hw t_q9 c27 dX11_init_129 (fun H locs hw => ?_)
  refine lv_dup hx hb dX11_init_130 rfl ?_
  refine lv_bipush (v := 13) hx hb dX11_init_131 (by decide) ?_
  refine lv_ldc2 hx hb E.2.2.2.1 (E.2.2.2.2 _ kl_X11_60) dX11_init_133 ?_
  obtain ⟨c28, h⟩ := h
  refine b_j E F hw t_q9 c28 dX11_init_136 (fun H locs hw => ?_)
  refine lv_dup hx hb dX11_init_137 rfl ?_
  refine lv_bipush (v := 14) hx hb dX11_init_138 (by decide) ?_
  refine lv_ldc2 hx hb E.2.2.2.1 (E.2.2.2.2 _ kl_X11_62) dX11_init_140 ?_
  obtain ⟨c29, h⟩ := h
  refine b_j E F hw t_q9 c29 dX11_init_143 (fun H locs hw => ?_)
  obtain ⟨S30, eS30⟩ : ∃ z : PS, z = pJ (pJ (pJ S26 q9 (Int32.toNatClampNeg (12 : Int32)) (620384 : Int64)) q9 (Int32.toNatClampNeg (13 : Int32)) (49892515302 : Int64)) q9 (Int32.toNatClampNeg (14 : Int32)) (19741 : Int64) := ⟨_, rfl⟩
  replace h := h S30 eS30
  rw [← eS30] at hw
  have t_o0 : tD S30 o0 11 := by rw [eS30]; exact t_o0
  have t_q9 : tD S30 q9 14 := by rw [eS30]; exact t_q9
  have hg : Gr S S30 := by rw [eS30]; exact hg
  refine lv_dup hx hb dX11_init_144 rfl ?_
  refine lv_bipush (v := 15) hx hb dX11_init_145 (by decide) ?_
  refine lv_ldc2 hx hb E.2.2.2.1 (E.2.2.2.2 _ kl_X11_64) dX11_init_147 ?_
  obtain ⟨c31, h⟩ := h
  refine b_j E F hw t_q9 c31 dX11_init_150 (fun H locs hw => ?_)
  refine lv_dup hx hb dX11_init_151 rfl ?_
  refine lv_bipush (v := 16) hx hb dX11_init_152 (by decide) ?_
  refine lv_ldc2 hx hb E.2.2.2.1 (E.2.2.2.2 _ kl_X11_66) dX11_init_154 ?_
  obtain ⟨c32, h⟩ := h
  refine b_j E F hw t_q9 c32 dX11_init_157 (fun H locs hw => ?_)
  refine lv_dup hx hb dX11_init_158 rfl ?_
  refine lv_bipush (v := 17) hx hb dX11_init_159 (by decide) ?_
  refine lv_ldc2 hx hb E.2.2.2.1 (E.2.2.2.2 _ kl_X11_68) dX11_init_161 ?_
  obtain ⟨c33, h⟩ := h
  refine b_j E F hw t_q9 c33 dX11_init_164 (fun H locs hw => ?_)
  obtain ⟨S34, eS34⟩ : ∃ z : PS, z = pJ (pJ (pJ S30 q9 (Int32.toNatClampNeg (15 : Int32)) (1891 : Int64)) q9 (Int32.toNatClampNeg (16 : Int32)) (573 : Int64)) q9 (Int32.toNatClampNeg (17 : Int32)) (1633 : Int64) := ⟨_, rfl⟩
  replace h := h S34 eS34
  rw [← eS34] at hw
  have t_o0 : tD S34 o0 11 := by rw [eS34]; exact t_o0
  have t_q9 : tD S34 q9 14 := by rw [eS34]; exact t_q9
  have hg : Gr S S34 := by rw [eS34]; exact hg
  refine p_RF E F hw t_o0 cf11 fk_X11_70 rfl hnm rfl rfl rfl dX11_init_165 rfl (fun H locs hw => ?_)
  refine lv_aload_n hx hb dX11_init_168 rfl (lv_at hl 0 rfl) ?_
  refine lv_sipush (v := 480) hx hb dX11_init_169 (by decide) ?_
  refine n_int E F hw (n := 480) (N := 480) (by decide) (by decide) (Nat.le_of_ble_eq_true rfl) (Nat.le_of_ble_eq_true rfl) (Nat.le_of_ble_eq_true rfl) dX11_init_172 (fun q35 H S36 eS36 hqq35 hw t_q35 hG => ?_)
  replace h := h q35 hqq35 S36 eS36
  have t_o0 := hG.t t_o0
  have hg := hg.tr hG
  refine p_RF E F hw t_o0 cf11 fk_X11_73 rfl hnm rfl rfl rfl dX11_init_174 rfl (fun H locs hw => ?_)
  refine lv_aload_n hx hb dX11_init_177 rfl (lv_at hl 0 rfl) ?_
  refine lv_sipush (v := 6600) hx hb dX11_init_178 (by decide) ?_
  refine n_int E F hw (n := 6600) (N := 6600) (by decide) (by decide) (Nat.le_of_ble_eq_true rfl) (Nat.le_of_ble_eq_true rfl) (Nat.le_of_ble_eq_true rfl) dX11_init_181 (fun q37 H S38 eS38 hqq37 hw t_q37 hG => ?_)
  replace h := h q37 hqq37 S38 eS38
  have t_o0 := hG.t t_o0
  have hg := hg.tr hG
  refine p_RF E F hw t_o0 cf11 fk_X11_76 rfl hnm rfl rfl rfl dX11_init_183 rfl (fun H locs hw => ?_)
  refine lv_aload_n hx hb dX11_init_186 rfl (lv_at hl 0 rfl) ?_
  refine lv_sipush (v := 6600) hx hb dX11_init_187 (by decide) ?_
  refine n_int E F hw (n := 6600) (N := 6600) (by decide) (by decide) (Nat.le_of_ble_eq_true rfl) (Nat.le_of_ble_eq_true rfl) (Nat.le_of_ble_eq_true rfl) dX11_init_190 (fun q39 H S40 eS40 hqq39 hw t_q39 hG => ?_)
  replace h := h q39 hqq39 S40 eS40
  have t_o0 := hG.t t_o0
  have hg := hg.tr hG
  refine p_RF E F hw t_o0 cf11 fk_X11_79 rfl hnm rfl rfl rfl dX11_init_192 rfl (fun H locs hw => ?_)
  refine lv_aload_n hx hb dX11_init_195 rfl (lv_at hl 0 rfl) ?_
  refine lv_bipush (v := 7) hx hb dX11_init_196 (by decide) ?_
  refine n_long E F hw (n := 7) (N := 7) (by decide) (by decide) (Nat.le_of_ble_eq_true rfl) (Nat.le_of_ble_eq_true rfl) (Nat.le_of_ble_eq_true rfl) dX11_init_198 (fun q41 H S42 eS42 hqq41 hw t_q41 hG => ?_)
  replace h := h q41 hqq41 S42 eS42
  have t_o0 := hG.t t_o0
  have hg := hg.tr hG
  refine p_RF E F hw t_o0 cf11 fk_X11_82 rfl hnm rfl rfl rfl dX11_init_200 rfl (fun H locs hw => ?_)
  refine lv_aload_n hx hb dX11_init_203 rfl (lv_at hl 0 rfl) ?_
  refine lv_iconst (v := 4) hx hb dX11_init_204 (by decide) ?_
  refine n_boolean E F hw (n := 4) (N := 4) (by decide) (by decide) (Nat.le_of_ble_eq_true rfl) (Nat.le_of_ble_eq_true rfl) (Nat.le_of_ble_eq_true rfl) dX11_init_205 (fun q43 H S44 eS44 hqq43 hw t_q43 hG => ?_)
  replace h := h q43 hqq43 S44 eS44
  have t_o0 := hG.t t_o0
  have hg := hg.tr hG
  refine p_RF E F hw t_o0 cf11 fk_X11_85 rfl hnm rfl rfl rfl dX11_init_207 rfl (fun H locs hw => ?_)
  refine lv_aload_n hx hb dX11_init_210 rfl (lv_at hl 0 rfl) ?_
  refine lv_iconst (v := 5) hx hb dX11_init_211 (by decide) ?_
  refine n_int E F hw (n := 5) (N := 5) (by decide) (by decide) (Nat.le_of_ble_eq_true rfl) (Nat.le_of_ble_eq_true rfl) (Nat.le_of_ble_eq_true rfl) dX11_init_212 (fun q45 H S46 eS46 hqq45 hw t_q45 hG => ?_)
  replace h := h q45 hqq45 S46 eS46
  have t_o0 := hG.t t_o0
  have hg := hg.tr hG
  refine p_RF E F hw t_o0 cf11 fk_X11_89 rfl hnm rfl rfl rfl dX11_init_214 rfl (fun H locs hw => ?_)
  refine lv_aload_n hx hb dX11_init_217 rfl (lv_at hl 0 rfl) ?_
  refine lv_sipush (v := 1100) hx hb dX11_init_218 (by decide) ?_
  refine n_int E F hw (n := 1100) (N := 1100) (by decide) (by decide) (Nat.le_of_ble_eq_true rfl) (Nat.le_of_ble_eq_true rfl) (Nat.le_of_ble_eq_true rfl) dX11_init_221 (fun q47 H S48 eS48 hqq47 hw t_q47 hG => ?_)
  replace h := h q47 hqq47 S48 eS48
  have t_o0 := hG.t t_o0
  have hg := hg.tr hG
  refine p_RF E F hw t_o0 cf11 fk_X11_92 rfl hnm rfl rfl rfl dX11_init_223 rfl (fun H locs hw => ?_)
  refine lv_aload_n hx hb dX11_init_226 rfl (lv_at hl 0 rfl) ?_
  refine lv_sipush (v := 10368) hx hb dX11_init_227 (by decide) ?_
  refine n_int E F hw (n := 10368) (N := 10368) (by decide) (by decide) (Nat.le_of_ble_eq_true rfl) (Nat.le_of_ble_eq_true rfl) (Nat.le_of_ble_eq_true rfl) dX11_init_230 (fun q49 H S50 eS50 hqq49 hw t_q49 hG => ?_)
  replace h := h q49 hqq49 S50 eS50
  have t_o0 := hG.t t_o0
  have hg := hg.tr hG
  refine p_RF E F hw t_o0 cf11 fk_X11_95 rfl hnm rfl rfl rfl dX11_init_232 rfl (fun H locs hw => ?_)
  refine lv_aload_n hx hb dX11_init_235 rfl (lv_at hl 0 rfl) ?_
  refine lv_bipush (v := 27) hx hb dX11_init_236 (by decide) ?_
  refine n_boolean E F hw (n := 27) (N := 27) (by decide) (by decide) (Nat.le_of_ble_eq_true rfl) (Nat.le_of_ble_eq_true rfl) (Nat.le_of_ble_eq_true rfl) dX11_init_238 (fun q51 H S52 eS52 hqq51 hw t_q51 hG => ?_)
  replace h := h q51 hqq51 S52 eS52
  have t_o0 := hG.t t_o0
  have hg := hg.tr hG
  refine p_RF E F hw t_o0 cf11 fk_X11_98 rfl hnm rfl rfl rfl dX11_init_240 rfl (fun H locs hw => ?_)
  refine lv_aload_n hx hb dX11_init_243 rfl (lv_at hl 0 rfl) ?_
  refine lv_sipush (v := 1728) hx hb dX11_init_244 (by decide) ?_
  refine n_int E F hw (n := 1728) (N := 1728) (by decide) (by decide) (Nat.le_of_ble_eq_true rfl) (Nat.le_of_ble_eq_true rfl) (Nat.le_of_ble_eq_true rfl) dX11_init_247 (fun q53 H S54 eS54 hqq53 hw t_q53 hG => ?_)
  replace h := h q53 hqq53 S54 eS54
  have t_o0 := hG.t t_o0
  have hg := hg.tr hG
  refine p_RF E F hw t_o0 cf11 fk_X11_101 rfl hnm rfl rfl rfl dX11_init_249 rfl (fun H locs hw => ?_)
  refine lv_aload_n hx hb dX11_init_252 rfl (lv_at hl 0 rfl) ?_
  refine lv_sipush (v := 12852) hx hb dX11_init_253 (by decide) ?_
  refine n_long E F hw (n := 12852) (N := 12852) (by decide) (by decide) (Nat.le_of_ble_eq_true rfl) (Nat.le_of_ble_eq_true rfl) (Nat.le_of_ble_eq_true rfl) dX11_init_256 (fun q55 H S56 eS56 hqq55 hw t_q55 hG => ?_)
  replace h := h q55 hqq55 S56 eS56
  have t_o0 := hG.t t_o0
  have hg := hg.tr hG
  refine p_RF E F hw t_o0 cf11 fk_X11_104 rfl hnm rfl rfl rfl dX11_init_258 rfl (fun H locs hw => ?_)
  refine lv_aload_n hx hb dX11_init_261 rfl (lv_at hl 0 rfl) ?_
  refine lv_bipush (v := 8) hx hb dX11_init_262 (by decide) ?_
  refine n_long E F hw (n := 8) (N := 8) (by decide) (by decide) (Nat.le_of_ble_eq_true rfl) (Nat.le_of_ble_eq_true rfl) (Nat.le_of_ble_eq_true rfl) dX11_init_264 (fun q57 H S58 eS58 hqq57 hw t_q57 hG => ?_)
  replace h := h q57 hqq57 S58 eS58
  have t_o0 := hG.t t_o0
  have hg := hg.tr hG
  refine lv_dup hx hb dX11_init_266 rfl ?_
  refine lv_iconst (v := 0) hx hb dX11_init_267 (by decide) ?_
  refine lv_lconst (v := 1) hx hb dX11_init_268 (by decide) ?_
  obtain ⟨c59, h⟩ := h
  refine b_j E F hw t_q57 c59 dX11_init_269 (fun H locs hw => ?_)
  refine lv_dup hx hb dX11_init_270 rfl ?_
  refine lv_iconst (v := 1) hx hb dX11_init_271 (by decide) ?_
  refine lv_ldc2 hx hb E.2.2.2.1 (E.2.2.2.2 _ kl_X11_107) dX11_init_272 ?_
  obtain ⟨c60, h⟩ := h
  refine b_j E F hw t_q57 c60 dX11_init_275 (fun H locs hw => ?_)
  refine lv_dup hx hb dX11_init_276 rfl ?_
  refine lv_iconst (v := 2) hx hb dX11_init_277 (by decide) ?_
  refine lv_ldc2 hx hb E.2.2.2.1 (E.2.2.2.2 _ kl_X11_109) dX11_init_278 ?_
  obtain ⟨c61, h⟩ := h
  refine b_j E F hw t_q57 c61 dX11_init_281 (fun H locs hw => ?_)
  obtain ⟨S62, eS62⟩ : ∃ z : PS, z = pJ (pJ (pJ S58 q57 (Int32.toNatClampNeg (0 : Int32)) (1 : Int64)) q57 (Int32.toNatClampNeg (1 : Int32)) (6 : Int64)) q57 (Int32.toNatClampNeg (2 : Int32)) (36 : Int64) := ⟨_, rfl⟩
  replace h := h S62 eS62
  rw [← eS62] at hw
  have t_o0 : tD S62 o0 11 := by rw [eS62]; exact t_o0
  have t_q57 : tD S62 q57 14 := by rw [eS62]; exact t_q57
  have hg : Gr S S62 := by rw [eS62]; exact hg
  refine lv_dup hx hb dX11_init_282 rfl ?_
  refine lv_iconst (v := 3) hx hb dX11_init_283 (by decide) ?_
  refine lv_ldc2 hx hb E.2.2.2.1 (E.2.2.2.2 _ kl_X11_111) dX11_init_284 ?_
  obtain ⟨c63, h⟩ := h
  refine b_j E F hw t_q57 c63 dX11_init_287 (fun H locs hw => ?_)
  refine lv_dup hx hb dX11_init_288 rfl ?_
  refine lv_iconst (v := 4) hx hb dX11_init_289 (by decide) ?_
  refine lv_ldc2 hx hb E.2.2.2.1 (E.2.2.2.2 _ kl_X11_113) dX11_init_290 ?_
  obtain ⟨c64, h⟩ := h
  refine b_j E F hw t_q57 c64 dX11_init_293 (fun H locs hw => ?_)
  refine lv_dup hx hb dX11_init_294 rfl ?_
  refine lv_iconst (v := 5) hx hb dX11_init_295 (by decide) ?_
  refine lv_ldc2 hx hb E.2.2.2.1 (E.2.2.2.2 _ kl_X11_115) dX11_init_296 ?_
  obtain ⟨c65, h⟩ := h
  refine b_j E F hw t_q57 c65 dX11_init_299 (fun H locs hw => ?_)
  obtain ⟨S66, eS66⟩ : ∃ z : PS, z = pJ (pJ (pJ S62 q57 (Int32.toNatClampNeg (3 : Int32)) (216 : Int64)) q57 (Int32.toNatClampNeg (4 : Int32)) (1296 : Int64)) q57 (Int32.toNatClampNeg (5 : Int32)) (7776 : Int64) := ⟨_, rfl⟩
  replace h := h S66 eS66
  rw [← eS66] at hw
  have t_o0 : tD S66 o0 11 := by rw [eS66]; exact t_o0
  have t_q57 : tD S66 q57 14 := by rw [eS66]; exact t_q57
  have hg : Gr S S66 := by rw [eS66]; exact hg
  refine lv_dup hx hb dX11_init_300 rfl ?_
  refine lv_bipush (v := 6) hx hb dX11_init_301 (by decide) ?_
  refine lv_ldc2 hx hb E.2.2.2.1 (E.2.2.2.2 _ kl_X11_117) dX11_init_303 ?_
  obtain ⟨c67, h⟩ := h
  refine b_j E F hw t_q57 c67 dX11_init_306 (fun H locs hw => ?_)
  refine lv_dup hx hb dX11_init_307 rfl ?_
  refine lv_bipush (v := 7) hx hb dX11_init_308 (by decide) ?_
  refine lv_ldc2 hx hb E.2.2.2.1 (E.2.2.2.2 _ kl_X11_119) dX11_init_310 ?_
  obtain ⟨c68, h⟩ := h
  refine b_j E F hw t_q57 c68 dX11_init_313 (fun H locs hw => ?_)
  refine p_RF E F hw t_o0 cf11 fk_X11_121 rfl hnm rfl rfl rfl dX11_init_314 rfl (fun H locs hw => ?_)
  refine lv_aload_n hx hb dX11_init_317 rfl (lv_at hl 0 rfl) ?_
  refine lv_bipush (v := 27) hx hb dX11_init_318 (by decide) ?_
  refine n_long E F hw (n := 27) (N := 27) (by decide) (by decide) (Nat.le_of_ble_eq_true rfl) (Nat.le_of_ble_eq_true rfl) (Nat.le_of_ble_eq_true rfl) dX11_init_320 (fun q69 H S70 eS70 hqq69 hw t_q69 hG => ?_)
  replace h := h q69 hqq69 S70 eS70
  have t_o0 := hG.t t_o0
  have hg := hg.tr hG
  refine p_RF E F hw t_o0 cf11 fk_X11_124 rfl hnm rfl rfl rfl dX11_init_322 rfl (fun H locs hw => ?_)
  refine lv_aload_n hx hb dX11_init_325 rfl (lv_at hl 0 rfl) ?_
  refine lv_bipush (v := 27) hx hb dX11_init_326 (by decide) ?_
  refine n_long E F hw (n := 27) (N := 27) (by decide) (by decide) (Nat.le_of_ble_eq_true rfl) (Nat.le_of_ble_eq_true rfl) (Nat.le_of_ble_eq_true rfl) dX11_init_328 (fun q71 H S72 eS72 hqq71 hw t_q71 hG => ?_)
  replace h := h q71 hqq71 S72 eS72
  have t_o0 := hG.t t_o0
  have hg := hg.tr hG
  refine p_RF E F hw t_o0 cf11 fk_X11_127 rfl hnm rfl rfl rfl dX11_init_330 rfl (fun H locs hw => ?_)
  refine lv_aload_n hx hb dX11_init_333 rfl (lv_at hl 0 rfl) ?_
  refine lv_bipush (v := 16) hx hb dX11_init_334 (by decide) ?_
  refine n_int E F hw (n := 16) (N := 16) (by decide) (by decide) (Nat.le_of_ble_eq_true rfl) (Nat.le_of_ble_eq_true rfl) (Nat.le_of_ble_eq_true rfl) dX11_init_336 (fun q73 H S74 eS74 hqq73 hw t_q73 hG => ?_)
  replace h := h q73 hqq73 S74 eS74
  have t_o0 := hG.t t_o0
  have hg := hg.tr hG
  refine p_RF E F hw t_o0 cf11 fk_X11_130 rfl hnm rfl rfl rfl dX11_init_338 rfl (fun H locs hw => ?_)
  refine lv_aload_n hx hb dX11_init_341 rfl (lv_at hl 0 rfl) ?_
  refine lv_bipush (v := 16) hx hb dX11_init_342 (by decide) ?_
  refine n_int E F hw (n := 16) (N := 16) (by decide) (by decide) (Nat.le_of_ble_eq_true rfl) (Nat.le_of_ble_eq_true rfl) (Nat.le_of_ble_eq_true rfl) dX11_init_344 (fun q75 H S76 eS76 hqq75 hw t_q75 hG => ?_)
  replace h := h q75 hqq75 S76 eS76
  have t_o0 := hG.t t_o0
  have hg := hg.tr hG
  refine p_RF E F hw t_o0 cf11 fk_X11_133 rfl hnm rfl rfl rfl dX11_init_346 rfl (fun H locs hw => ?_)
  refine lv_aload_n hx hb dX11_init_349 rfl (lv_at hl 0 rfl) ?_
  refine lv_bipush (v := 16) hx hb dX11_init_350 (by decide) ?_
  refine n_int E F hw (n := 16) (N := 16) (by decide) (by decide) (Nat.le_of_ble_eq_true rfl) (Nat.le_of_ble_eq_true rfl) (Nat.le_of_ble_eq_true rfl) dX11_init_352 (fun q77 H S78 eS78 hqq77 hw t_q77 hG => ?_)
  replace h := h q77 hqq77 S78 eS78
  have t_o0 := hG.t t_o0
  have hg := hg.tr hG
  refine p_RF E F hw t_o0 cf11 fk_X11_136 rfl hnm rfl rfl rfl dX11_init_354 rfl (fun H locs hw => ?_)
  refine lv_aload_n hx hb dX11_init_357 rfl (lv_at hl 0 rfl) ?_
  refine lv_bipush (v := 16) hx hb dX11_init_358 (by decide) ?_
  refine n_int E F hw (n := 16) (N := 16) (by decide) (by decide) (Nat.le_of_ble_eq_true rfl) (Nat.le_of_ble_eq_true rfl) (Nat.le_of_ble_eq_true rfl) dX11_init_360 (fun q79 H S80 eS80 hqq79 hw t_q79 hG => ?_)
  replace h := h q79 hqq79 S80 eS80
  have t_o0 := hG.t t_o0
  have hg := hg.tr hG
  refine p_RF E F hw t_o0 cf11 fk_X11_139 rfl hnm rfl rfl rfl dX11_init_362 rfl (fun H locs hw => ?_)
  refine lv_aload_n hx hb dX11_init_365 rfl (lv_at hl 0 rfl) ?_
  refine lv_bipush (v := 16) hx hb dX11_init_366 (by decide) ?_
  refine n_int E F hw (n := 16) (N := 16) (by decide) (by decide) (Nat.le_of_ble_eq_true rfl) (Nat.le_of_ble_eq_true rfl) (Nat.le_of_ble_eq_true rfl) dX11_init_368 (fun q81 H S82 eS82 hqq81 hw t_q81 hG => ?_)
  replace h := h q81 hqq81 S82 eS82
  have t_o0 := hG.t t_o0
  have hg := hg.tr hG
  refine p_RF E F hw t_o0 cf11 fk_X11_142 rfl hnm rfl rfl rfl dX11_init_370 rfl (fun H locs hw => ?_)
  refine lv_aload_n hx hb dX11_init_373 rfl (lv_at hl 0 rfl) ?_
  refine lv_iconst (v := 3) hx hb dX11_init_374 (by decide) ?_
  refine n_int E F hw (n := 3) (N := 3) (by decide) (by decide) (Nat.le_of_ble_eq_true rfl) (Nat.le_of_ble_eq_true rfl) (Nat.le_of_ble_eq_true rfl) dX11_init_375 (fun q83 H S84 eS84 hqq83 hw t_q83 hG => ?_)
  replace h := h q83 hqq83 S84 eS84
  have t_o0 := hG.t t_o0
  have hg := hg.tr hG
  refine p_RF E F hw t_o0 cf11 fk_X11_145 rfl hnm rfl rfl rfl dX11_init_377 rfl (fun H locs hw => ?_)
  refine lv_aload_n hx hb dX11_init_380 rfl (lv_at hl 0 rfl) ?_
  refine lv_bipush (v := 48) hx hb dX11_init_381 (by decide) ?_
  refine n_int E F hw (n := 48) (N := 48) (by decide) (by decide) (Nat.le_of_ble_eq_true rfl) (Nat.le_of_ble_eq_true rfl) (Nat.le_of_ble_eq_true rfl) dX11_init_383 (fun q85 H S86 eS86 hqq85 hw t_q85 hG => ?_)
  replace h := h q85 hqq85 S86 eS86
  have t_o0 := hG.t t_o0
  have hg := hg.tr hG
  refine p_RF E F hw t_o0 cf11 fk_X11_148 rfl hnm rfl rfl rfl dX11_init_385 rfl (fun H locs hw => ?_)
  refine lv_aload_n hx hb dX11_init_388 rfl (lv_at hl 0 rfl) ?_
  refine lv_bipush (v := 16) hx hb dX11_init_389 (by decide) ?_
  refine n_int E F hw (n := 16) (N := 16) (by decide) (by decide) (Nat.le_of_ble_eq_true rfl) (Nat.le_of_ble_eq_true rfl) (Nat.le_of_ble_eq_true rfl) dX11_init_391 (fun q87 H S88 eS88 hqq87 hw t_q87 hG => ?_)
  replace h := h q87 hqq87 S88 eS88
  have t_o0 := hG.t t_o0
  have hg := hg.tr hG
  refine p_RF E F hw t_o0 cf11 fk_X11_151 rfl hnm rfl rfl rfl dX11_init_393 rfl (fun H locs hw => ?_)
  refine lv_aload_n hx hb dX11_init_396 rfl (lv_at hl 0 rfl) ?_
  refine lv_iconst (v := 4) hx hb dX11_init_397 (by decide) ?_
  refine n_boolean E F hw (n := 4) (N := 4) (by decide) (by decide) (Nat.le_of_ble_eq_true rfl) (Nat.le_of_ble_eq_true rfl) (Nat.le_of_ble_eq_true rfl) dX11_init_398 (fun q89 H S90 eS90 hqq89 hw t_q89 hG => ?_)
  replace h := h q89 hqq89 S90 eS90
  have t_o0 := hG.t t_o0
  have hg := hg.tr hG
  refine p_RF E F hw t_o0 cf11 fk_X11_154 rfl hnm rfl rfl rfl dX11_init_400 rfl (fun H locs hw => ?_)
  refine lv_aload_n hx hb dX11_init_403 rfl (lv_at hl 0 rfl) ?_
  refine lv_iconst (v := 4) hx hb dX11_init_404 (by decide) ?_
  refine n_int E F hw (n := 4) (N := 4) (by decide) (by decide) (Nat.le_of_ble_eq_true rfl) (Nat.le_of_ble_eq_true rfl) (Nat.le_of_ble_eq_true rfl) dX11_init_405 (fun q91 H S92 eS92 hqq91 hw t_q91 hG => ?_)
  replace h := h q91 hqq91 S92 eS92
  have t_o0 := hG.t t_o0
  have hg := hg.tr hG
  refine p_RF E F hw t_o0 cf11 fk_X11_157 rfl hnm rfl rfl rfl dX11_init_407 rfl (fun H locs hw => ?_)
  refine lv_aload_n hx hb dX11_init_410 rfl (lv_at hl 0 rfl) ?_
  refine lv_sipush (v := 192) hx hb dX11_init_411 (by decide) ?_
  refine n_int E F hw (n := 192) (N := 192) (by decide) (by decide) (Nat.le_of_ble_eq_true rfl) (Nat.le_of_ble_eq_true rfl) (Nat.le_of_ble_eq_true rfl) dX11_init_414 (fun q93 H S94 eS94 hqq93 hw t_q93 hG => ?_)
  replace h := h q93 hqq93 S94 eS94
  have t_o0 := hG.t t_o0
  have hg := hg.tr hG
  refine p_RF E F hw t_o0 cf11 fk_X11_160 rfl hnm rfl rfl rfl dX11_init_416 rfl (fun H locs hw => ?_)
  obtain ⟨qq, h, hpo⟩ := h
  exact T419 o0 (pR S94 o0 50 (some q93)) qq _ _ _ hpo (by rw [h]; rfl) hw hg t_o0 (lv_sub hl [0] rfl)
