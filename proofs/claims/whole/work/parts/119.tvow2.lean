/-! vow of both -/
section TVow2
variable {S T : PS} {A Z : Nat → Nat} {v : Nat} {B : Nat → Nat} {r r' : Nat → Nat} {Pg : Nat → List (Nat × Nat)} {l : List (Nat × Nat)} {F G : Nat → Int} {i j : Nat}
def vowA (r : Nat → Nat) (Pg : Nat → List (Nat × Nat)) (k s : Nat) (x3 : Int32) : Int64 := if x3 = 0 then (eB (bl (hV r Pg k s) (vL r 9))).toInt64 else Int64.ofInt (lowX ((match bl (hV r Pg k s) (vL r 9) with
  | none => 0
  | some i => hV r Pg k s i) - hpO (upr r (61 + k) 0) Pg k s) (6 ^ (k + (lf r k 0 - 1))) (x3 - 1))
def w2B (x : Int32) : Bool := inX x (fun n => decide (n < 3))
theorem r_within2 (x : Int32) : f_X11_within x 0 2 S = some (bN (w2B x), S) := by
  rw [r_within]
  congr 3
  unfold w2B
  by_cases h : x < 0
  · rw [inX_neg h, decide_eq_false]
    intro q
    have := q.1
    rw [Int32.le_iff_toInt_le] at this
    rw [Int32.lt_iff_toInt_lt] at h
    omega
  · obtain ⟨n, hn, rfl⟩ := nI_of h
    rw [inX_nI hn]
    refine decide_eq_decide.mpr ⟨fun q => ?_, fun q => ⟨nI_pos' hn, (nI_leI (b := 2) hn (by decide)).mpr (by omega)⟩⟩
    have := (nI_leI (b := 2) hn (by decide)).mp q.2
    omega
theorem w2_c {x : Int32} {P Q : Prop} (hP : w2B x = false → P) (hQ : w2B x = true → Q) : (x < 0 → P) ∧ (¬ x < 0 → (((2 : Int32) < x → P) ∧ (¬ (2 : Int32) < x → Q))) := by
  unfold w2B at hP hQ
  refine ⟨fun h => hP (inX_neg h _), fun h => ?_⟩
  obtain ⟨n, hn, rfl⟩ := nI_of h
  rw [inX_nI hn] at hP hQ
  refine ⟨fun q => hP (decide_eq_false ?_), fun q => hQ (decide_eq_true ?_)⟩
  · have := (nI_ltI (a := 2) (by decide) hn).mp q; omega
  · have : ¬ 2 < n := fun z => q ((nI_ltI (a := 2) (by decide) hn).mpr z); omega
theorem r_vow_bad (C : RC S A Z r Pg) (x1 x2 x3 : Int32) (hb : (hopB r x1 x2 && (decide (0 < r 0) && w2B x3)) = false) : f_X11_vow (A 300) x1 x2 x3 S = some (0, pI S (A 300) 0 1) := by
  have h0 := C.w.1
  have bad : f_X11_vow_31 (A 300) x1 x2 x3 (A 300) 1 S = some (0, pI S (A 300) 0 1) := by unfold f_X11_vow_31; exact sq (th1 C) rfl
  unfold f_X11_vow
  rcases sb3 hb with h | ⟨h, h2⟩ | ⟨h, h2, h3⟩
  · exact sb (r_isHope C x1 x2) (sp (by rw [h]; rfl) bad)
  · simp only [decide_eq_false_iff_not] at h2
    exact sb (r_isHope C x1 x2) (sq (by rw [h]; exact nb1) (sb (r_things C.L C.R) (sp (by show nI (r 0) ≤ nI 0; rw [nI_leI (by omega) (by omega)]; omega) bad)))
  · simp only [decide_eq_true_eq] at h2
    exact sb (r_isHope C x1 x2) (sq (by rw [h]; exact nb1) (sb (r_things C.L C.R) (sq (by show ¬ nI (r 0) ≤ nI 0; rw [nI_leI (by omega) (by omega)]; omega) (sb (r_within2 x3) (sp (by rw [h3]; rfl) bad)))))
theorem r_vow_ok (C : RC S A Z r Pg) (hq : RQ S A r Pg) (h6 : SixR S A) {k s : Nat} (x3 : Int32) (hk : k < r 28) (h7 : k < 7) (hs : s < r 13) (ht0 : 0 < r 0) (hx : w2B x3 = true) : Ok (f_X11_vow (A 300) (nI k) (nI s) x3 S) (fun y T => y = vowA r Pg k s x3 ∧ sI T (A 300) 0 = 0 ∧ (RC T A Z r Pg ∧ RQ T A r Pg ∧ SixR T A) ∧ Fr A Z fZ S T) := by
  have h0 := C.w.1
  have hspr := C.w.spr
  have f0 := thrown_f (S := S) (A := A) (Z := Z) 0
  have C0 := C.fr f0
  have h6p := p6_b (k := k) C.w
  have p0 : plOK r 0 := ⟨by decide, Or.inl rfl⟩
  have hbW := hpP_bd (Pg := Pg) (s := s) C.w hk h7 p0
  have hbd : ∀ i, i < 9 → vOK r i = true → -(279936 * (20001 * 254803968)) ≤ hV r Pg k s i ∧ hV r Pg k s i ≤ 279936 * (20001 * 254803968) := fun i h9 ho => hpP_bd C.w hk h7 (plOK_i h9 ho)
  have hidr : upr r (61 + k) (r (61 + k)) = r := upr_id r rfl
  unfold f_X11_vow
  refine Ok.sb (r_isHope C _ _) (Ok.sq (by rw [hopB_n hk h7 hs C.w.2.2.1]; exact nb1) (Ok.sb (r_things C.L C.R) (Ok.sq (by show ¬ nI (r 0) ≤ nI 0; rw [nI_leI (by omega) (by omega)]; omega) (Ok.sb (r_within2 x3) (Ok.sq (by rw [hx]; exact nb1) ?_)))))
  unfold f_X11_vow_31
  refine Ok.sp (by rw [th0 C]; decide) ?_
  rw [e_61]
  refine Ok.sb (pR300_10 C0.L) (Ok.sp (ibL rfl (nN310 C0.L) (by omega)) (Ok.sb (pR300_10 C0.L) (Ok.sp (ibL rfl (nN310 C0.L) (by omega)) ?_)))
  rw [nI_clamp (by omega), C0.R _ (by omega)]
  refine Ok.bd (r_pledgeV (Pg := Pg) (Z := Z) (p0 := r (61 + k)) (p := 0) (by rw [hidr]; exact C0) (by rw [hidr]; exact hq.fr f0 C.z) (h6.fr f0 C.z) C.w p0 hk h7 hs) (fun y1 T1 ⟨hy1, C1, q1, s1, g1⟩ => ?_)
  subst hy1
  refine Ok.lp (fun m a => ∃ i T p, i + m = 9 ∧ a = (eB (bl (hV r Pg k s) (vL r i)), eM (hV r Pg k s) (bl (hV r Pg k s) (vL r i)), nI i, T) ∧ RC T A Z (upr r (61 + k) p) Pg ∧ RQ T A (upr r (61 + k) p) Pg ∧ SixR T A ∧ Fr A Z (fO ++ [(310, 9998)]) (pI S (A 300) 0 0) T) 9 (by decide) ⟨0, T1, 0, rfl, rfl, C1, q1, s1, g1⟩ ?_
  rintro m a ⟨i, T, p, hi, rfl, CT, qT, sT, hf⟩
  have e0 : upr r (61 + k) p 0 = r 0 := upr61 (by omega)
  by_cases e : i = 9
  · subst e
    refine Or.inl ⟨(eB (bl (hV r Pg k s) (vL r 9)), eM (hV r Pg k s) (bl (hV r Pg k s) (vL r 9)), T), ?_, ?_⟩
    · unfold f_X11_vow_b86
      exact sp (by show (9 : Int32) ≤ nI 9; decide) rfl
    · unfold f_X11_vow_161
      rw [e_61]
      refine Ok.sb (pR300_10 CT.L) (Ok.sp (ibL rfl (nN310 CT.L) (by omega)) ?_)
      rw [nI_clamp (by omega)]
      have hVb : Vg (upr r (61 + k) p) r := fun i hi a b c => (upr61 (by omega)).symm
      obtain ⟨C3, q3, s3, f3⟩ := r_upd (i := 61 + k) (x := r (61 + k)) CT qT sT (by rw [upr_upr, hidr]; exact hVb) (by rw [upr_upr, hidr]; exact C.w)
      rw [upr_upr, hidr] at C3 q3
      have es := e_sixN C3.L s3 (by omega : k < 8)
      have eb := e_below C3 s3 hk h7
      refine Ok.sb (pR300_27 C3.L) (Ok.sp es.1 (Ok.sb (e_partsOf C3 s3 hk) ?_))
      dsimp only
      rw [es.2, eb.1]
      obtain ⟨w, hw, hwb⟩ : ∃ w : Int, eM (hV r Pg k s) (bl (hV r Pg k s) (vL r 9)) = Int64.ofInt w ∧ (w = (match bl (hV r Pg k s) (vL r 9) with
          | none => 0
          | some i => hV r Pg k s i) ∧ -(279936 * (20001 * 254803968)) ≤ w ∧ w ≤ 279936 * (20001 * 254803968)) := by
        cases hb : bl (hV r Pg k s) (vL r 9) with
        | none => exact ⟨0, rfl, rfl, by decide, by decide⟩
        | some i =>
          have hm := vL_mem (bl_mem hb)
          exact ⟨_, rfl, rfl, hbd i hm.1 hm.2⟩
      rw [hw, ← Int64.ofInt_sub]
      refine (r_fin2 C3.L C.z x3 _ (by omega) (by omega) eb.2.1 eb.2.2.1).mono (fun y U ⟨hy, hfU⟩ => ⟨?_, ?_, ⟨C3.fr hfU, q3.fr hfU C.z, s3.fr hfU C.z⟩, ((((f0.mono (by decide)).tr (hf.mono (by decide))).tr (f3.mono (by decide))).tr (hfU.mono (by decide)))⟩)
      · rw [hy, hwb.1]; rfl
      · rw [hfU.gI C.z rfl, f3.gI C.z rfl, hf.gI C.z rfl]; exact th0 C
  · refine Or.inr (Or.inr ?_)
    have h9 : i < 9 := by omega
    have ed : nI i / 3 = nI (i / 3) := pk_div (d := 3) (by omega) (by decide) (by decide)
    have em : nI i - nI i / 3 * 3 = nI (i % 3) := pk_rem (d := 3) (by omega) (by decide) (by decide)
    have est : f_X11_isState (A 300) (nI i / 3) (nI i - nI i / 3 * 3) T = some (bN (vOK r i), T) := by
      rw [em, ed, r_isState CT.L CT.R CT.w, inX_nI (by omega), e0]
      congr 3
      unfold vOK
      by_cases q : i / 3 < r 0
      · rw [decide_eq_true q, Bool.true_and, Bool.true_and, inX_nI (by omega), upr61 (by omega)]
      · rw [decide_eq_false q]; rfl
    cases ho : vOK r i with
    | false =>
      refine ⟨m - 1, (_, _, nI (i + 1), T), by omega, ?_, i + 1, T, p, by omega, rfl, CT, qT, sT, hf⟩
      rw [vL_succ, ho]
      unfold f_X11_vow_b86
      refine sq (by show ¬ nI 9 ≤ nI i; rw [nI_leI (by omega) (by omega)]; omega) (sb est (sp (by rw [ho]; rfl) ?_))
      rw [nI_1]; simp
    | true =>
      obtain ⟨⟨y, U⟩, eU, hy, CU, qU, sU, gU⟩ := r_pledgeV (p := 1 + i) CT qT sT C.w (plOK_i h9 ho) hk h7 hs
      simp only at hy CU qU sU gU
      have hbl : bl (hV r Pg k s) (vL r (i + 1)) = blS (hV r Pg k s) (bl (hV r Pg k s) (vL r i)) i := by rw [vL_succ, ho]; exact bl_snoc _ _ _
      refine ⟨m - 1, (_, _, nI (i + 1), U), by omega, ?_, i + 1, U, 1 + i, by omega, rfl, CU, qU, sU, hf.tr gU⟩
      rw [hbl]
      unfold f_X11_vow_b86
      refine sq (by show ¬ nI 9 ≤ nI i; rw [nI_leI (by omega) (by omega)]; omega) (sb est (sq (by rw [ho]; exact nb1) (sb (pR300_10 CT.L) (sp ?_ ?_))))
      · rw [e_61]; exact ibL rfl (nN310 CT.L) (by omega)
      · dsimp only
        have e1i : (1 : Int32) + nI i = nI (1 + i) := nI_aL 1 i
        rw [e_61, nI_clamp (by omega), e1i]
        refine sb eU ?_
        dsimp only
        rw [hy]
        refine bl_step (V := hV r Pg k s) (i := i) (fun y hb => ?_) ?_ (fun hb => ?_) (fun hb => ?_)
        · have hm := vL_mem (bl_mem hb)
          have := hbd y (by omega) hm.2
          exact ⟨by omega, by unfold i64R; omega⟩
        · have := hbd i h9 ho
          unfold i64R; omega
        · unfold f_X11_vow_147b86
          rw [hb, nI_1]; rfl
        · rw [hb, nI_1]
theorem hVU (hw : WF r) {k s p : Nat} (hk : k < r 28) (hp : plOK r p) : hpU (upr r (61 + k) p) Pg k s = hpO (upr r (61 + k) p) Pg k s * (6 ^ (7 - k) * 6 ^ (6 - lf r k 0)) := by
  have hspr := hw.spr
  rw [hpU_eq (WF_pledge hw (by omega) hp) (by rw [upr61 (by omega)]; exact hk), lf_cg (Vg_pl k p)]
theorem c_hopesUnder (D : CC S A Z v B r Pg) (hP : CP S A r Pg) {k s p : Nat} {x4 : Int32} (hk : k < r 28) (h7 : k < 7) (hs : s < r 13) (hp : plOK r p) (h3 : p ≠ 0 → x4 = nI ((p - 1) % 3)) : Ok (f_X10_hopesUnder (A 0) (nI k) (nI s) (pT p) x4 S) (fun y T => y = Int64.ofInt (hpU (upr r (61 + k) p) Pg k s) ∧ CC T A Z v B (upr r (61 + k) p) Pg ∧ CP T A (upr r (61 + k) p) Pg ∧ Fr A Z (fC ++ [(62, 9999), (63, 9999)]) S T) := by
  have hspr := D.w.spr
  unfold f_X10_hopesUnder
  refine Ok.bd (c_setPledge D hP (by omega) hp h3) (fun _ T ⟨DT, PT, hf⟩ => Ok.sb (pR0_5 DT.L) (Ok.bd (c_solve0 DT PT) (fun _ U ⟨hS, PU, hfU⟩ => ?_)))
  have DU := DT.fr hfU
  refine Ok.sb (pR0_6 DU.L) (Ok.bd (c_hopesOf DU hS (n := k) (s := s) (by rw [upr61 (by omega)]; exact hk) h7 (by rw [upr61 (by omega)]; exact hs)) (fun y V ⟨hy, hfV⟩ => Ok.ret ⟨hy, DU.fr hfV, PU.fr hfV D.z, ((hf.mono (by decide)).tr (hfU.mono (by decide))).tr (hfV.mono (by decide))⟩))
theorem vL_skip {t : Nat} (hw : WF r) (ht : t < r 0) : vL r (3 * t + r (1 + 4 * t)) = vL r (3 * (t + 1)) := by
  have h3 := (hw.2.1 t ht).1
  rcases h3 with h3 | h3
  · rw [h3, show 3 * (t + 1) = 3 * t + 2 + 1 by omega, vL_succ (3 * t + 2)]
    have : vOK r (3 * t + 2) = false := by
      unfold vOK
      rw [show (3 * t + 2) / 3 = t by omega, show (3 * t + 2) % 3 = 2 by omega, h3]
      simp
    rw [this]; simp
  · rw [h3]; rfl
theorem vL_end {t : Nat} (h : r 0 ≤ t) : ∀ m, vL r (3 * t + m) = vL r (3 * t)
  | 0 => rfl
  | m + 1 => by
    rw [← Nat.add_assoc, vL_succ, vL_end h m]
    have : vOK r (3 * t + m) = false := by
      unfold vOK
      rw [decide_eq_false (by omega)]; rfl
    rw [this]; simp
theorem t_vow (H : WS S A Z v B r Pg) (x1 x2 x3 : Int32) {K : PS → Prop} {post : Int32 → PS → Prop} (hK : ∀ U, WS U A Z v B r Pg → Fr A Z fY S U → K U) (hp : ∀ r6 S5, TQ (f_X11_vow (A 300) x1 x2 x3) (A 300) (A 200) K r6 S5 → post r6 S5) : g_L_vow (A 0) x1 x2 x3 (A 200) S post := by
  obtain ⟨C, h6, hq, D, hP⟩ := H
  have HS : WS S A Z v B r Pg := ⟨C, h6, hq, D, hP⟩
  have h0 := C.w.1
  have e0 : sI S v 0 = nI (r 0) := D.vr.1.1
  have bad : (hopB r x1 x2 && (decide (0 < r 0) && w2B x3)) = false → post 1 S := fun hb => tq_badY HS (r_vow_bad C x1 x2 x3 hb) hK hp
  unfold g_L_vow g_X10_vow
  refine ⟨_, pR0_3 D.L, _, D.rv, _, c_isForeseen D x1, bsplit (fun e => bad (by unfold hopB; rw [e]; rfl)) (fun h1 => ⟨_, c_hasSort D x2, bsplit (fun e => bad (by unfold hopB; rw [e, Bool.and_false]; rfl)) (fun h2 => ⟨fun h3 => bad ?_, fun h3 => w2_c (fun e => bad (by rw [e, Bool.and_false, Bool.and_false])) (fun h4 => ?_)⟩)⟩)⟩
  · have h3' : sI S v 0 ≤ nI 0 := h3
    rw [e0, nI_leI (by omega) (by omega)] at h3'
    rw [decide_eq_false (by omega), Bool.false_and, Bool.and_false]
  have h3' : ¬ sI S v 0 ≤ nI 0 := h3
  rw [e0, nI_leI (by omega) (by omega)] at h3'
  obtain ⟨k, rfl, hk, h7, h13⟩ := earB_t h1
  obtain ⟨s, -, rfl, hs⟩ := inX_t h2
  simp only [decide_eq_true_eq] at hs
  have hspr := C.w.spr
  have hlf := lf_pos C.w hk
  have p0 : plOK r 0 := ⟨by decide, Or.inl rfl⟩
  have hidr : upr r (61 + k) (r (61 + k)) = r := upr_id r rfl
  have hM : (0 : Int) < 6 ^ (7 - k) * 6 ^ (6 - lf r k 0) := Int.mul_pos (Int.pow_pos (by decide)) (Int.pow_pos (by decide))
  obtain ⟨M, hMe⟩ : ∃ M : Int, M = 6 ^ (7 - k) * 6 ^ (6 - lf r k 0) := ⟨_, rfl⟩
  obtain ⟨VU, hVUe⟩ : ∃ VU : Nat → Int, VU = fun i => hpU (upr r (61 + k) (1 + i)) Pg k s := ⟨_, rfl⟩
  have hbU : ∀ p, plOK r p → -(279936 * (20001 * 254803968)) ≤ hpU (upr r (61 + k) p) Pg k s ∧ hpU (upr r (61 + k) p) Pg k s ≤ 279936 * (20001 * 254803968) := fun p hp => hpU_bd (WF_pledge C.w (by omega) hp) (by rw [upr61 (by omega)]; omega) (by omega)
  have hbl : bl VU (vL r 9) = bl (hV r Pg k s) (vL r 9) := (bl_scale (hV r Pg k s) VU (m := M) (by rw [hMe]; exact hM) (vL r 9) (fun i hi => by rw [hVUe, hMe]; exact hVU C.w hk (plOK_i (vL_mem hi).1 (vL_mem hi).2))).1
  have hpk := C.w.k (by omega : k < 16)
  have et : Ok (f_X10_vow_t51 (A 0) (nI k) (nI s) x3 v S) (fun z T => z = vowA r Pg k s x3 ∧ CC T A Z v B r Pg ∧ CP T A r Pg ∧ Fr A Z (fC ++ [(62, 9999), (63, 9999)]) S T) := by
    unfold f_X10_vow_t51
    refine Ok.sb (pR0_3 D.L) (Ok.sb (pR3_2 D.L) (Ok.sp (ibL rfl (nN62 D.L) (by omega)) (Ok.sb (pR0_3 D.L) (Ok.sb (pR3_3 D.L) (Ok.sp (ibL rfl (nN63 D.L) (by omega)) ?_)))))
    rw [nI_clamp (by omega)]
    have e62 : sI S (A 62) k = pT (r (61 + k)) := by
      unfold pT
      by_cases q : r (61 + k) = 0
      · rw [if_pos q]; exact (D.t.1 k (by omega)).2.1 q
      · rw [if_neg q]; exact ((D.t.1 k (by omega)).2.2 q).1
    refine Ok.bd (c_hopesUnder (p := 0) D hP hk h7 hs p0 (fun q => absurd rfl q)) (fun y1 T1 ⟨hy1, D1, P1, f1⟩ => ?_)
    subst hy1
    refine Ok.lp (fun m a => ∃ t T p, t + m = r 0 ∧ a = (eM VU (bl VU (vL r (3 * t))), eB (bl VU (vL r (3 * t))), nI t, T) ∧ CC T A Z v B (upr r (61 + k) p) Pg ∧ CP T A (upr r (61 + k) p) Pg ∧ Fr A Z (fC ++ [(62, 9999), (63, 9999)]) S T) (r 0) (by unfold fu; omega) ⟨0, T1, 0, by omega, rfl, D1, P1, f1⟩ ?_
    rintro m a ⟨t, T, p, ht, rfl, DT, PT, hf⟩
    have e0T : sI T v 0 = nI (r 0) := by have := DT.vr.1.1; rw [upr61 (by omega)] at this; exact this
    by_cases e : t = r 0
    · refine Or.inl ⟨(eM VU (bl VU (vL r 9)), eB (bl VU (vL r 9)), T), ?_, ?_⟩
      · unfold f_X10_vow_b92
        refine sp ?_ ?_
        · show sI T v 0 ≤ nI t
          rw [e0T, nI_leI (by omega) (by omega)]; omega
        · have : vL r 9 = vL r (3 * t) := by
            have := vL_end (r := r) (t := t) (by omega) (9 - 3 * t)
            rw [← this]; congr 1; omega
          rw [this]
      · unfold f_X10_vow_169
        have h16 : k < 16 := by omega
        have hplr : plOK (upr r (61 + k) p) (r (61 + k)) := by
          refine ⟨hpk.2.1, hpk.2.2.imp id (fun q => ?_)⟩
          rw [upr61 (by omega), upr61 (by omega)]; exact q
        show Ok ((f_X10_setPledge (A 0) (nI k) (sI S (A 62) k) (sI S (A 63) k) T).bind _) _
        rw [e62]
        refine Ok.bd (c_setPledge DT PT h16 hplr (fun q => ((D.t.1 k h16).2.2 q).2)) (fun _ U ⟨DU, PU, hfU⟩ => ?_)
        rw [upr_upr, hidr] at DU PU
        have hfSU : Fr A Z (fC ++ [(62, 9999), (63, 9999)]) S U := hf.tr (hfU.mono (by decide))
        rw [hbl]
        unfold vowA
        by_cases q0 : x3 = 0
        · refine Ok.sp q0 (Ok.ret ⟨by rw [if_pos q0], DU, PU, hfSU⟩)
        · refine Ok.sq q0 ?_
          obtain ⟨w, hw, hwb⟩ : ∃ w : Int, eM VU (bl (hV r Pg k s) (vL r 9)) = Int64.ofInt (w * M) ∧ (w = (match bl (hV r Pg k s) (vL r 9) with
              | none => 0
              | some i => hV r Pg k s i) ∧ -(279936 * (20001 * 254803968)) ≤ w * M ∧ w * M ≤ 279936 * (20001 * 254803968)) := by
            cases hb : bl (hV r Pg k s) (vL r 9) with
            | none => exact ⟨0, by rw [Int.zero_mul]; rfl, rfl, by rw [Int.zero_mul]; decide, by rw [Int.zero_mul]; decide⟩
            | some i =>
              have hm := vL_mem (bl_mem hb)
              have h1 := hVU (Pg := Pg) (s := s) C.w hk (plOK_i hm.1 hm.2)
              have h2 := hbU _ (plOK_i hm.1 hm.2)
              refine ⟨hV r Pg k s i, ?_, rfl, ?_⟩
              · show Int64.ofInt (VU i) = _
                rw [hVUe]
                show Int64.ofInt (hpU (upr r (61 + k) (1 + i)) Pg k s) = _
                rw [h1, hMe]; rfl
              · rw [hMe]
                show _ ≤ hpO (upr r (61 + k) (1 + i)) Pg k s * _ ∧ hpO (upr r (61 + k) (1 + i)) Pg k s * _ ≤ _
                rw [← h1]; exact h2
          have h0u := hVU (Pg := Pg) (s := s) C.w hk p0
          have hb0 := hbU 0 p0
          rw [← hMe] at h0u
          rw [hw, h0u, ← Int64.ofInt_sub, ← Int.sub_mul]
          rw [h0u] at hb0
          refine Ok.sb (c_lowestTerms (b := 2176782336) (by rw [Int.sub_mul]; omega) (by rw [Int.sub_mul]; omega) (by decide) (by decide)) (Ok.ret ⟨?_, DU, PU, hfSU⟩)
          show Int64.ofInt (lowX _ 2176782336 (x3 - 1)) = _
          rw [if_neg q0, (e_below C h6 hk h7).2.2.2, hMe, lowX_mul hM, hwb.1]
    · refine Or.inr (Or.inr ?_)
      have ht0 : t < r 0 := by omega
      have h23 := (C.w.2.1 t ht0).1
      obtain ⟨b, eb, U, p', DU, PU, hfU, rfl⟩ : ∃ b, loopN (fun a => f_X10_vow_b105 (A 0) (nI k) (nI s) x3 v (sI S (A 62) k) (sI S (A 63) k) (Int64.ofInt (hpU (upr r (61 + k) 0) Pg k s)) (nI t) a.1 a.2.1 a.2.2.1 a.2.2.2) fu (eM VU (bl VU (vL r (3 * t))), eB (bl VU (vL r (3 * t))), (0 : Int32), T) = some (.inr b) ∧ ∃ U p', CC U A Z v B (upr r (61 + k) p') Pg ∧ CP U A (upr r (61 + k) p') Pg ∧ Fr A Z (fC ++ [(62, 9999), (63, 9999)]) S U ∧ b = (eM VU (bl VU (vL r (3 * (t + 1)))), eB (bl VU (vL r (3 * (t + 1)))), U) := by
        refine lpI (fun m a => ∃ u U p', u + m = r (1 + 4 * t) ∧ a = (eM VU (bl VU (vL r (3 * t + u))), eB (bl VU (vL r (3 * t + u))), nI u, U) ∧ CC U A Z v B (upr r (61 + k) p') Pg ∧ CP U A (upr r (61 + k) p') Pg ∧ Fr A Z (fC ++ [(62, 9999), (63, 9999)]) S U) (r (1 + 4 * t)) (by unfold fu; omega) ⟨0, T, p, by omega, rfl, DT, PT, hf⟩ ?_
        rintro m a ⟨u, U, p', hu, rfl, DU, PU, hfU⟩
        have e1U : sI U (B 1) t = nI (r (1 + 4 * t)) := by have := (DU.vr.2.1 t (by rw [upr61 (by omega)]; exact ht0)).1; rw [upr61 (by omega)] at this; exact this
        by_cases e2 : u = r (1 + 4 * t)
        · refine Or.inl ⟨_, ?_, U, p', DU, PU, hfU, rfl⟩
          unfold f_X10_vow_b105
          refine sb (DU.vl.R 0 rfl) (sp (ibL rfl (DU.vl.n 0 rfl) (by omega)) (sp ?_ ?_))
          · rw [nI_clamp (by omega), e1U, nI_leI (by omega) (by omega)]; omega
          · rw [e2, vL_skip C.w ht0]
        · refine Or.inr ?_
          have hu3 : u < r (1 + 4 * t) := by omega
          have ho : vOK r (3 * t + u) = true := by
            unfold vOK
            rw [show (3 * t + u) / 3 = t by omega, show (3 * t + u) % 3 = u by omega, decide_eq_true ht0, decide_eq_true hu3]; rfl
          have hpo := plOK_i (r := r) (by omega : 3 * t + u < 9) ho
          have hpo' : plOK (upr r (61 + k) p') (1 + (3 * t + u)) := by
            refine ⟨hpo.1, hpo.2.imp id (fun q => ?_)⟩
            rw [upr61 (by omega), upr61 (by omega)]; exact q
          have ept : pT (1 + (3 * t + u)) = nI t := by
            unfold pT
            rw [if_neg (by omega), show (1 + (3 * t + u) - 1) / 3 = t by omega]
          obtain ⟨⟨y, V⟩, eV, hy, DV, PV, hfV⟩ := c_hopesUnder (x4 := nI u) (p := 1 + (3 * t + u)) (s := s) DU PU (by rw [upr61 (by omega)]; exact hk) h7 (by rw [upr61 (by omega)]; exact hs) hpo' (fun _ => by rw [show (1 + (3 * t + u) - 1) % 3 = u by omega])
          simp only [upr_upr] at hy DV PV hfV
          rw [ept] at eV
          have hbl2 : bl VU (vL r (3 * t + u + 1)) = blS VU (bl VU (vL r (3 * t + u))) (3 * t + u) := by rw [vL_succ, ho]; exact bl_snoc _ _ _
          refine ⟨m - 1, (_, _, nI (u + 1), V), by omega, ?_, u + 1, V, 1 + (3 * t + u), by omega, rfl, DV, PV, hfU.tr hfV⟩
          rw [show 3 * t + (u + 1) = 3 * t + u + 1 by omega, hbl2]
          unfold f_X10_vow_b105
          refine sb (DU.vl.R 0 rfl) (sp (ibL rfl (DU.vl.n 0 rfl) (by omega)) (sq ?_ (sb eV ?_)))
          · rw [nI_clamp (by omega), e1U, nI_leI (by omega) (by omega)]; omega
          · dsimp only
            have hyV : y = Int64.ofInt (VU (3 * t + u)) := by rw [hy, hVUe]
            rw [hyV]
            have e3 : nI t * 3 + nI u = nI (3 * t + u) := by rw [lit32 3, pk_mul, nI_add, Nat.mul_comm]
            refine bl_step1 (V := VU) (i := 3 * t + u) (fun y hb => ?_) ?_ (fun hb => ?_) (fun hb => ?_)
            · have hm := vL_mem (bl_mem hb)
              have := hbU _ (plOK_i (by omega : y < 9) hm.2)
              exact ⟨by omega, by rw [hVUe]; unfold i64R; dsimp only; omega⟩
            · have := hbU _ hpo
              rw [hVUe]; unfold i64R; dsimp only; omega
            · unfold f_X10_vow_144b105
              rw [hb, nI_1, e3]; rfl
            · rw [hb, nI_1]
      refine ⟨m - 1, (_, _, nI (t + 1), U), by omega, ?_, t + 1, U, p', by omega, rfl, DU, PU, hfU⟩
      unfold f_X10_vow_b92
      refine sq ?_ (sb eb ?_)
      · show ¬ sI T v 0 ≤ nI t
        rw [e0T, nI_leI (by omega) (by omega)]; omega
      · show f_X10_vow_163b92 (A 0) (nI k) (nI s) x3 v (sI S (A 62) k) (sI S (A 63) k) (Int64.ofInt (hpU (upr r (61 + k) 0) Pg k s)) (eM VU (bl VU (vL r (3 * (t + 1))))) (eB (bl VU (vL r (3 * (t + 1))))) (nI t) U = _
        unfold f_X10_vow_163b92
        rw [nI_1]
  obtain ⟨⟨z, T⟩, et, hz, DT, PT, hf⟩ := et
  simp only at hz DT PT hf
  subst hz
  have HT : WS T A Z v B r Pg := ⟨C.fr hf, h6.fr hf C.z, hq.fr hf C.z, DT, PT⟩
  exact ⟨_, et, tq_okY HT (hf.mono (by decide)) (fun V HV => r_vow_ok HV.1 HV.2.2.1 HV.2.1 x3 hk h7 hs (by omega) h4) hK hp⟩
end TVow2
