/-! the class reads sentences -/
def snV (t : Nat → Nat) (n : Nat) (v : VS) : Nat × VS := snS t n v.1 v.2.1 v.2.2.1 v.2.2.2.1 v.2.2.2.2.1 v.2.2.2.2.2.1 v.2.2.2.2.2.2.1 v.2.2.2.2.2.2.2
def rdS (t : Nat → Nat) (n : Nat) : Nat → VS → Nat × VS
  | 0, v => (0, v)
  | m + 1, v => if tkN t n v.1 = 28 then (0, v) else if (snV t n v).1 = 0 then rdS t n m (snV t n v).2 else snV t n v
section CSent
variable {S T U : PS} {A Z : Nat → Nat} {i j k m s n x th so fs fb w cd : Nat} {t N r : Nat → Nat} {Pg : Nat → List (Nat × Nat)} {hc : Nat → Bool} {hl hs : Bool} {v : VS} {post : Int32 → PS → Prop} {q : Nat × VS}
theorem OutC.isb {f : Option (Int32 × PS)} (h : Ok f (OutC A Z n t S q)) : Ok (f.bind fun q => if isB q.1 = true then some (q.1, q.2) else none) (OutC A Z n t S q) := by
  obtain ⟨⟨x, T⟩, e, o⟩ := h
  refine ⟨(x, T), ?_, o⟩
  rw [e]
  exact if_pos (by rw [show (x, T).1 = x from rfl, show x = _ from o.1]; exact bN_isB _)
theorem c_sentF (V : VC S A Z n t j r Pg N hc hl hs (r 0) (r 13) (r 13) (r 22)) (hz : Zo A Z) (ho : TpO (n, t)) (hk : tkN t n j ≠ 28) (hV : VO t n j r Pg N hc cd) (k5 : tkN t n j ≠ 5) (k11 : tkN t n j ≠ 11) : Ok (f_X6_readSentence (A 2) S) (OutC A Z n t S (snS t n j r Pg N hc hl hs cd)) := by
  obtain ⟨⟨h3, -, hst⟩, ⟨h13, -, hs4⟩, ⟨h22, -⟩, -, h29', -, hd, -, -⟩ := hV
  have h29 : ∀ k, k < 16 → r (29 + k) ≤ 5 := fun k hk => by have := (h29' k hk).1; omega
  have bad : (tkN t n j ≠ 0 ∧ tkN t n j ≠ 5 ∧ tkN t n j ≠ 7 ∧ tkN t n j ≠ 8 ∧ tkN t n j ≠ 11 ∧ tkN t n j ≠ 12 ∧ tkN t n j ≠ 13) → Ok ((f_X6_refuse (A 2) (1 : Int32) S).bind fun q => if isB q.1 = true then some (q.1, q.2) else none) (OutC A Z n t S (snS t n j r Pg N hc hl hs cd)) := fun z => by
    unfold snS
    rw [if_neg z.1, if_neg z.2.1, if_neg z.2.2.1, if_neg z.2.2.2.1, if_neg z.2.2.2.2.1, if_neg z.2.2.2.2.2.1, if_neg z.2.2.2.2.2.2]
    exact Ok.sb (c_refuse V.L ho V.a 1) (Ok.sp rfl (Ok.ret (OutC.bad hz GfC.rf (by decide))))
  have kl : ∀ w, w < 30 → tkN t n j = w → sI S (A 2) 2 = nI w := fun w hw e => (V.a.tk ho hw).mpr e
  have kx : ∀ w, w < 30 → tkN t n j ≠ w → ¬ sI S (A 2) 2 = nI w := fun w hw e z => e ((V.a.tk ho hw).mp z)
  unfold f_X6_readSentence
  by_cases hK0 : tkN t n j = 0
  · refine Ok.sp (kl 0 (by decide) hK0) (OutC.isb ?_)
    have hK := hK0
    unfold snS
    rw [if_pos hK]
    exact c_thing V hz ho hk h3 h13 hst
  refine Ok.sq (kx 0 (by decide) hK0) ?_
  by_cases hK1 : tkN t n j = 1
  · exact Ok.sp (kl 1 (by decide) hK1) (bad (by omega))
  refine Ok.sq (kx 1 (by decide) hK1) ?_
  by_cases hK2 : tkN t n j = 2
  · exact Ok.sp (kl 2 (by decide) hK2) (bad (by omega))
  refine Ok.sq (kx 2 (by decide) hK2) ?_
  by_cases hK3 : tkN t n j = 3
  · exact Ok.sp (kl 3 (by decide) hK3) (bad (by omega))
  refine Ok.sq (kx 3 (by decide) hK3) ?_
  by_cases hK4 : tkN t n j = 4
  · exact Ok.sp (kl 4 (by decide) hK4) (bad (by omega))
  refine Ok.sq (kx 4 (by decide) hK4) ?_
  refine Ok.sq (kx 5 (by decide) k5) ?_
  by_cases hK6 : tkN t n j = 6
  · exact Ok.sp (kl 6 (by decide) hK6) (bad (by omega))
  refine Ok.sq (kx 6 (by decide) hK6) ?_
  by_cases hK7 : tkN t n j = 7
  · refine Ok.sp (kl 7 (by decide) hK7) (OutC.isb ?_)
    have hK := hK7
    unfold snS
    rw [if_neg (show ¬ tkN t n j = 0 by omega), if_neg (show ¬ tkN t n j = 5 by omega), if_pos hK]
    exact c_sCh V hz ho hk h13
  refine Ok.sq (kx 7 (by decide) hK7) ?_
  by_cases hK8 : tkN t n j = 8
  · refine Ok.sp (kl 8 (by decide) hK8) (OutC.isb ?_)
    have hK := hK8
    unfold snS
    rw [if_neg (show ¬ tkN t n j = 0 by omega), if_neg (show ¬ tkN t n j = 5 by omega), if_neg (show ¬ tkN t n j = 7 by omega), if_pos hK]
    exact c_sSg V hz ho hk h13 h29
  refine Ok.sq (kx 8 (by decide) hK8) ?_
  by_cases hK9 : tkN t n j = 9
  · exact Ok.sp (kl 9 (by decide) hK9) (bad (by omega))
  refine Ok.sq (kx 9 (by decide) hK9) ?_
  by_cases hK10 : tkN t n j = 10
  · exact Ok.sp (kl 10 (by decide) hK10) (bad (by omega))
  refine Ok.sq (kx 10 (by decide) hK10) ?_
  refine Ok.sq (kx 11 (by decide) k11) ?_
  by_cases hK12 : tkN t n j = 12
  · refine Ok.sp (kl 12 (by decide) hK12) (OutC.isb ?_)
    have hK := hK12
    unfold snS
    rw [if_neg (show ¬ tkN t n j = 0 by omega), if_neg (show ¬ tkN t n j = 5 by omega), if_neg (show ¬ tkN t n j = 7 by omega), if_neg (show ¬ tkN t n j = 8 by omega), if_neg (show ¬ tkN t n j = 11 by omega), if_pos hK]
    exact c_sLi V hz ho hk
  refine Ok.sq (kx 12 (by decide) hK12) ?_
  by_cases hK13 : tkN t n j = 13
  · refine Ok.sp (kl 13 (by decide) hK13) (OutC.isb ?_)
    have hK := hK13
    unfold snS
    rw [if_neg (show ¬ tkN t n j = 0 by omega), if_neg (show ¬ tkN t n j = 5 by omega), if_neg (show ¬ tkN t n j = 7 by omega), if_neg (show ¬ tkN t n j = 8 by omega), if_neg (show ¬ tkN t n j = 11 by omega), if_neg (show ¬ tkN t n j = 12 by omega), if_pos hK]
    exact c_sSp V hz ho hk
  refine Ok.sq (kx 13 (by decide) hK13) ?_
  exact bad (by omega)
theorem c_sentG (V : VC S A Z n t j r Pg N hc hl hs (r 0) (r 13) (r 13) (r 22)) (hz : Zo A Z) (ho : TpO (n, t)) (hN : Nz A Z S) (hk : tkN t n j ≠ 28) (hV : VO t n j r Pg N hc cd) (k5 : tkN t n j = 5 ∨ tkN t n j = 11) (hp : ∀ x T, OutC A Z n t S (snS t n j r Pg N hc hl hs cd) x T → post x T) : g_X6_readSentence (A 2) S post := by
  obtain ⟨⟨h3, -, hst⟩, ⟨h13, -, hs4⟩, ⟨h22, -⟩, -, h29', -, hd, -, -⟩ := hV
  have kl : ∀ w, w < 30 → tkN t n j = w → sI S (A 2) 2 = nI w := fun w hw e => (V.a.tk ho hw).mpr e
  have kx : ∀ w, w < 30 → tkN t n j ≠ w → ¬ sI S (A 2) 2 = nI w := fun w hw e z => e ((V.a.tk ho hw).mp z)
  have wr : ∀ x T, OutC A Z n t S (snS t n j r Pg N hc hl hs cd) x T → ∃ qq, (if isB x = true then some (x, T) else none) = some qq ∧ post qq.1 qq.2 := fun x T o => ⟨(x, T), if_pos (by rw [show x = _ from o.1]; exact bN_isB _), hp x T o⟩
  unfold g_X6_readSentence
  rcases k5 with hK | hK
  · have e : snS t n j r Pg N hc hl hs cd = sSo t n j r Pg N hc hl hs cd := by
      unfold snS
      rw [if_neg (show ¬ tkN t n j = 0 by omega), if_pos hK]
    rw [e] at wr
    refine ⟨fun z => absurd z (kx 0 (by decide) (by omega)), fun _ => ⟨fun z => absurd z (kx 1 (by decide) (by omega)), fun _ => ⟨fun z => absurd z (kx 2 (by decide) (by omega)), fun _ => ⟨fun z => absurd z (kx 3 (by decide) (by omega)), fun _ => ⟨fun z => absurd z (kx 4 (by decide) (by omega)), fun _ => ⟨fun _ => ?_, fun z => absurd (kl 5 (by decide) hK) z⟩⟩⟩⟩⟩⟩
    exact c_sSo V hz ho hN hk h3 h13 wr
  · have e : snS t n j r Pg N hc hl hs cd = sBa t n j r Pg N hc hl hs cd := by
      unfold snS
      rw [if_neg (show ¬ tkN t n j = 0 by omega), if_neg (show ¬ tkN t n j = 5 by omega), if_neg (show ¬ tkN t n j = 7 by omega), if_neg (show ¬ tkN t n j = 8 by omega), if_pos hK]
    rw [e] at wr
    refine ⟨fun z => absurd z (kx 0 (by decide) (by omega)), fun _ => ⟨fun z => absurd z (kx 1 (by decide) (by omega)), fun _ => ⟨fun z => absurd z (kx 2 (by decide) (by omega)), fun _ => ⟨fun z => absurd z (kx 3 (by decide) (by omega)), fun _ => ⟨fun z => absurd z (kx 4 (by decide) (by omega)), fun _ => ⟨fun z => absurd z (kx 5 (by decide) (by omega)), fun _ => ⟨fun z => absurd z (kx 6 (by decide) (by omega)), fun _ => ⟨fun z => absurd z (kx 7 (by decide) (by omega)), fun _ => ⟨fun z => absurd z (kx 8 (by decide) (by omega)), fun _ => ⟨fun z => absurd z (kx 9 (by decide) (by omega)), fun _ => ⟨fun z => absurd z (kx 10 (by decide) (by omega)), fun _ => ⟨fun _ => ?_, fun z => absurd (kl 11 (by decide) hK) z⟩⟩⟩⟩⟩⟩⟩⟩⟩⟩⟩⟩
    exact c_sBa V hz ho hN hk h3 h13 h22 wr
end CSent
