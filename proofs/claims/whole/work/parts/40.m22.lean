/-! CROSSINGS: a point on an edge, a meet more -/
theorem w_holds {X : PX} {d : Nat} {S : SS} {zI zL : ZM} {Q : PQ} (hX : isCr S) {h : Nat} {n : Int} {I J V : Int → Int} {ne : Int} {fo la fi ls : Int → Int} {m : Int} {X0 XD Y YD : Int → Int} (hC : CvH S zI zL h n I J V ne fo la fi ls m X0 XD Y YD) {e : Int} (h0 : 0 ≤ e) (h1 : e < ne) {x xd y yd : Int} (hPH : PH zL 20 x xd y yd) (hPB : PB x xd y yd) (h26 : 26 ≤ h) (hQ : ∀ z2, (∀ c, c ≠ 21 → c ≠ 22 → z2 c = zL c) → Q (some (pI (hldS (I (la e) - I (fo e)) (J (la e) - J (fo e)) x xd y yd (fi e) (ls e) X0 XD Y YD))) S zI z2) : wpM X (d + 3) fCrossing_holds [pR 13, pR (h + 4), pI e] S zI zL Q := by
  obtain ⟨xob, xps, xr19, ⟨xp0, xp1, xp2⟩, x0, x1, x2, x3, x4⟩ := hX
  have hC0 := hC
  obtain ⟨hcv, hT, hR, ⟨e8, ⟨hne0, hne1⟩, hed⟩, hP, hPR, hm75⟩ := hC
  obtain ⟨hobc, hform, hpt, hpts, ⟨hr11, hr12, hr13, hr14⟩, ⟨c0, c1, c2, c3⟩, c4, c5, c6, c7⟩ := hcv
  have hform0 := hform
  have hT0 := hT
  have hR0 := hR
  obtain ⟨hob, ⟨hr1, hr2, hr3⟩, hf1, hf2, hf3⟩ := hform
  obtain ⟨e4, hel⟩ := hT
  obtain ⟨hn0, hn40, hrg⟩ := hR
  obtain ⟨⟨q1, q2, q3, q4⟩, q5, q6, q7, q8, q9, q10, q11, q12⟩ := hed e h0 h1
  obtain ⟨a1, a2, a3⟩ := hel (fo e) q5 q6
  obtain ⟨b1, b2, b3⟩ := hel (la e) q7 q8
  have ra := hrg (fo e) q5 q6
  have rb := hrg (la e) q7 q8
  have hob6 := hpts.1
  have hcb := cmpA_b (I (la e) - I (fo e)) (J (la e) - J (fo e)) x xd y yd (X0 (fi e)) (XD (fi e)) (Y (fi e)) (YD (fi e))
  have hcb2 := cmpA_b (I (la e) - I (fo e)) (J (la e) - J (fo e)) x xd y yd (X0 (ls e)) (XD (ls e)) (Y (ls e)) (YD (ls e))
  have hrest : ¬ (fi e ≠ -1 ∧ cmpA (I (la e) - I (fo e)) (J (la e) - J (fo e)) x xd y yd (X0 (fi e)) (XD (fi e)) (Y (fi e)) (YD (fi e)) < 0) → ∀ z : ZM, (∀ c, c ≠ 21 → z c = zL c) → Run X (d + 2) c_Crossing_holds 33 [some (pR 13), some (pR (h + 4)), some (pI e), some (pI (I (la e) - I (fo e))), some (pI (J (la e) - J (fo e)))] [] S zI z 0 0 Q := by
    intro hn1 z hz
    have hPz : PsH zI z (h + 6) m X0 XD Y YD := PsH_fr hP rfl (fun c k0 k1 => hz c (by omega))
    refine r_aload_n rfl rfl ?_
    refine r_getR rfl hobc (by assumption) ?_
    refine r_iload_n rfl rfl ?_
    refine r_iald rfl hr14 (by omega) (by omega) ?_
    rw [q4]
    refine r_iconst rfl ?_
    refine r_icmp_eq rfl (by unfold inI; omega) (by unfold inI; omega) (fun h38 => ?_) (fun h38 => ?_)
    · skip
      refine r_iconst rfl ?_
      refine r_zret rfl (by first | exact Or.inl rfl | exact Or.inr rfl) ?_
      unfold hldS at hQ; rw [if_neg hn1, if_neg (fun q => by have := q.1; omega)] at hQ; exact hQ _ (fun c k0 k1 => hz c k0)
    · skip
      refine r_aload_n rfl rfl ?_
      refine r_getR rfl hobc (by assumption) ?_
      refine r_aload_n rfl rfl ?_
      refine r_getR rfl hobc (by assumption) ?_
      refine r_iload_n rfl rfl ?_
      refine r_iald rfl hr14 (by omega) (by omega) ?_
      rw [q4]
      refine r_aload_n rfl rfl ?_
      refine r_getR rfl (by assumption) (by assumption) ?_
      refine r_cV3 rfl hob6 (Nat.le_of_ble_eq_true rfl) rfl rfl (w_fetch hpts hPz hPR hm75 xp2 (Or.inl (by omega)) (by omega) q12 ?_)
      refine r_aload_n rfl rfl ?_
      refine r_getR rfl (by assumption) (by assumption) ?_
      refine r_aload_n rfl rfl ?_
      refine r_getR rfl (by assumption) (by assumption) ?_
      refine r_iload_n rfl rfl ?_
      refine r_iload rfl rfl ?_
      refine r_cV4 rfl xp0 (Nat.le_of_ble_eq_true rfl) rfl rfl (w_cmpAlong xp0 (by unfold PH; rw [zput_row (by decide), zput_row (by decide), zput_row (by decide), zput_row (by decide), hz 20 (by decide)]; exact hPH) xp2 ph_put hPB (hPR.2 _ (by omega) q12) (by omega) (by omega) ?_)
      refine r_if_gt rfl (by unfold inI; omega) (fun h55 => ?_) (fun h55 => ?_)
      · skip
        refine r_iconst rfl ?_
        refine r_zret rfl (by first | exact Or.inl rfl | exact Or.inr rfl) ?_
        unfold hldS at hQ; rw [if_neg hn1, if_pos ⟨by omega, by omega⟩] at hQ; exact hQ _ (fun c k0 k1 => by rw [zput_row k1, zput_row k1, zput_row k1, zput_row k1]; exact hz c k0)
      · skip
        refine r_iconst rfl ?_
        refine r_goto rfl ?_
        refine r_zret rfl (by first | exact Or.inl rfl | exact Or.inr rfl) ?_
        unfold hldS at hQ; rw [if_neg hn1, if_neg (fun q => by have := q.2; omega)] at hQ; exact hQ _ (fun c k0 k1 => by rw [zput_row k1, zput_row k1, zput_row k1, zput_row k1]; exact hz c k0)
  refine wp_in (C := c_Crossing_holds) (ls := [some (pR 13), some (pR (h + 4)), some (pI e), none, none]) rfl rfl rfl rfl rfl ?_
  refine r_aload_n rfl rfl ?_
  refine r_iload_n rfl rfl ?_
  refine r_cV2 rfl hobc (Nat.le_of_ble_eq_true rfl) rfl rfl (w_acrossI hC0 h0 h1 ?_)
  refine r_istore_n rfl (Nat.le_of_ble_eq_true rfl) ?_
  refine r_aload_n rfl rfl ?_
  refine r_iload_n rfl rfl ?_
  refine r_cV2 rfl hobc (Nat.le_of_ble_eq_true rfl) rfl rfl (w_acrossJ hC0 h0 h1 ?_)
  refine r_istore rfl (Nat.le_of_ble_eq_true rfl) ?_
  refine r_aload_n rfl rfl ?_
  refine r_getR rfl hobc (by assumption) ?_
  refine r_iload_n rfl rfl ?_
  refine r_iald rfl hr13 (by omega) (by omega) ?_
  rw [q3]
  refine r_iconst rfl ?_
  refine r_icmp_eq rfl (by unfold inI; omega) (by unfold inI; omega) (fun h13 => ?_) (fun h13 => ?_)
  · skip
    exact hrest (fun q => by have := q.1; omega) zL (fun c _ => rfl)
  · skip
    refine r_aload_n rfl rfl ?_
    refine r_getR rfl hobc (by assumption) ?_
    refine r_aload_n rfl rfl ?_
    refine r_getR rfl hobc (by assumption) ?_
    refine r_iload_n rfl rfl ?_
    refine r_iald rfl hr13 (by omega) (by omega) ?_
    rw [q3]
    refine r_aload_n rfl rfl ?_
    refine r_getR rfl (by assumption) (by assumption) ?_
    refine r_cV3 rfl hob6 (Nat.le_of_ble_eq_true rfl) rfl rfl (w_fetch hpts hP hPR hm75 xp1 (Or.inl (by omega)) (by omega) q10 ?_)
    have fr1 : ∀ c, c ≠ 21 → zput (zput (zput (zput zL 21 0 (X0 (fi e))) 21 1 (XD (fi e))) 21 2 (Y (fi e))) 21 3 (YD (fi e)) c = zL c := fun c hc => by rw [zput_row hc, zput_row hc, zput_row hc, zput_row hc]
    refine r_aload_n rfl rfl ?_
    refine r_getR rfl (by assumption) (by assumption) ?_
    refine r_aload_n rfl rfl ?_
    refine r_getR rfl (by assumption) (by assumption) ?_
    refine r_iload_n rfl rfl ?_
    refine r_iload rfl rfl ?_
    refine r_cV4 rfl xp0 (Nat.le_of_ble_eq_true rfl) rfl rfl (w_cmpAlong xp0 (by unfold PH; rw [fr1 20 (by decide)]; exact hPH) xp1 ph_put hPB (hPR.2 _ (by omega) q10) (by omega) (by omega) ?_)
    refine r_if_ge rfl (by unfold inI; omega) (fun h30 => ?_) (fun h30 => ?_)
    · skip
      exact hrest (fun q => by have := q.2; omega) _ fr1
    · skip
      refine r_iconst rfl ?_
      refine r_zret rfl (by first | exact Or.inl rfl | exact Or.inr rfl) ?_
      unfold hldS at hQ; rw [if_pos ⟨by omega, by omega⟩] at hQ; exact hQ _ (fun c k0 k1 => fr1 c k0)
/-- the meets as they are kept -/
abbrev MTS : Type := Int × (Int → Int) × (Int → Int) × (Int → Int) × (Int → Int) × (Int → Int)
def MH (zI zL : ZM) (s : MTS) : Prop := PsH zI zL 14 s.1 s.2.1 s.2.2.1 s.2.2.2.1 s.2.2.2.2.1 ∧ PsR s.1 s.2.1 s.2.2.1 s.2.2.2.1 s.2.2.2.2.1 ∧ s.1 ≤ 128 ∧ (∀ t, 0 ≤ t → t < s.1 → zI 19 t = s.2.2.2.2.2 t) ∧ zI 14 4 = 128
def notA (s : MTS) (x xd y yd : Int) : Int := skS s.1 s.2.1 s.2.2.1 s.2.2.2.1 s.2.2.2.2.1 x xd y yd
def notS (s : MTS) (x xd y yd ct : Int) : MTS := if s.1 < 128 then (s.1 + 1, insF s.2.1 (notA s x xd y yd) x, insF s.2.2.1 (notA s x xd y yd) xd, insF s.2.2.2.1 (notA s x xd y yd) y, insF s.2.2.2.2.1 (notA s x xd y yd) yd, insF s.2.2.2.2.2 (notA s x xd y yd) ct) else s
def frXI (z zI : ZM) : Prop := ∀ c, c ≠ 14 → c ≠ 19 → z c = zI c
def frXL (z zL : ZM) : Prop := ∀ c, (c < 15 ∨ 22 < c) → z c = zL c
set_option maxHeartbeats 4000000 in
theorem w_note {X : PX} {d : Nat} {S : SS} {zI zL : ZM} {Q : PQ} (hX : isCr S) {s : MTS} {x xd y yd ct : Int} (hM : MH zI zL s) (hPH : PH zL 20 x xd y yd) (hPB : PB x xd y yd) (hQ : ∀ z z2, frXI z zI → (∀ c, (c < 15 ∨ 18 < c) → z2 c = zL c) → MH z z2 (notS s x xd y yd ct) → Q none S z z2) : wpM X (d + 3) fCrossing_note [pR 13, pI ct] S zI zL Q := by
  obtain ⟨xob, xps, xr19, ⟨xp0, xp1, xp2⟩, x0, x1, x2, x3, x4⟩ := hX
  obtain ⟨m, X0, XD, Y, YD, CT⟩ := s
  obtain ⟨hP, hPR, hm, hct, h4⟩ := hM
  have hM0 : MH zI zL (m, X0, XD, Y, YD, CT) := ⟨hP, hPR, hm, hct, h4⟩
  replace hP : PsH zI zL 14 m X0 XD Y YD := hP
  replace hPR : PsR m X0 XD Y YD := hPR
  replace hm : m ≤ 128 := hm
  replace hct : ∀ t, 0 ≤ t → t < m → zI 19 t = CT t := hct
  have hob14 := xps.1
  have hm0 := hPR.1
  have e5 := hP.1
  have hatb := skS_b m X0 XD Y YD x xd y yd hm0
  obtain ⟨t, htd⟩ : ∃ t : Int, t = skS m X0 XD Y YD x xd y yd := ⟨_, rfl⟩
  have hna : notA (m, X0, XD, Y, YD, CT) x xd y yd = t := htd.symm
  unfold notS at hQ
  rw [hna] at hQ
  rw [← htd] at hatb
  refine wp_in (C := c_Crossing_note) (ls := [some (pR 13), some (pI ct), none, none]) rfl rfl rfl rfl rfl ?_
  refine r_aload_n rfl rfl ?_
  refine r_getR rfl (by assumption) (by assumption) ?_
  refine r_aload_n rfl rfl ?_
  refine r_getR rfl (by assumption) (by assumption) ?_
  refine r_cV2 rfl hob14 (Nat.le_of_ble_eq_true rfl) rfl rfl (w_seek xps hP hPR hm xp0 hPH hPB (by omega) ?_)
  rw [← htd]
  refine r_istore_n rfl (Nat.le_of_ble_eq_true rfl) ?_
  refine r_aload_n rfl rfl ?_
  refine r_getR rfl (by assumption) (by assumption) ?_
  refine r_getI rfl hob14 ?_
  rw [e5]
  refine r_iload_n rfl rfl ?_
  refine r_isub rfl ?_
  refine r_istore_n rfl (Nat.le_of_ble_eq_true rfl) ?_
  refine r_aload_n rfl rfl ?_
  refine r_getR rfl (by assumption) (by assumption) ?_
  refine r_iload_n rfl rfl ?_
  refine r_aload_n rfl rfl ?_
  refine r_getR rfl (by assumption) (by assumption) ?_
  refine r_cV3 rfl hob14 (Nat.le_of_ble_eq_true rfl) rfl rfl (w_insert xps hP hPR hm xp0 hPH (by omega) (by omega) h4 hatb.1 hatb.2 (fun q => by
    refine r_if_eq rfl (by unfold inI; omega) (fun _ => ?_) (fun q => absurd rfl q)
    refine r_ret rfl ?_
    have hn : ¬ (m < 128) := by omega
    have hq := hQ zI zL (fun c _ _ => rfl) (fun c _ => rfl)
    rw [if_neg hn] at hq
    exact hq hM0) (fun q z3 hz3 => ?_))
  refine r_if_eq rfl (by unfold inI; omega) (fun h18 => ?_) (fun h18 => ?_)
  · skip
    refine r_ret rfl ?_
    exact absurd h18 (by decide)
  · skip
    skip
    refine r_aload_n rfl rfl ?_
    refine r_getR rfl (by assumption) (by assumption) ?_
    refine r_iload_n rfl rfl ?_
    refine r_aload_n rfl rfl ?_
    refine r_getR rfl (by assumption) (by assumption) ?_
    refine r_iload_n rfl rfl ?_
    refine r_iconst rfl ?_
    refine r_iadd rfl ?_
    refine r_iload_n rfl rfl ?_
    refine r_acopyI rfl xr19 xr19 (Nat.le_of_ble_eq_true rfl) (by omega) (by omega) (by omega) (by omega) (by omega) ?_
    refine r_aload_n rfl rfl ?_
    refine r_getR rfl (by assumption) (by assumption) ?_
    refine r_iload_n rfl rfl ?_
    refine r_iload_n rfl rfl ?_
    refine r_iast rfl (by assumption) (by omega) (by omega) ?_
    refine r_ret rfl ?_
    have hmm : m < 128 := q
    rw [if_pos (show (m, X0, XD, Y, YD, CT).1 < 128 from hmm)] at hQ
    refine hQ _ z3 (fun c k0 k1 => ?_) (fun c hc => hz3.1 c (by omega) (by omega) (by omega) (by omega)) ?_
    rotate_left
    · refine ⟨⟨?_, fun j j0 j1 => hz3.2 j j0 j1⟩, PsR_ins hPR hatb.1 hatb.2 hPB, by show m + 1 ≤ 128; omega, fun j j0 j1 => ?_, ?_⟩
      · unfold zput zrow cpI; simp (disch := omega) only [if_pos, if_neg, ↓reduceIte, true_and, and_true, true_or, or_true, and_self]
      · have j1 : j < m + 1 := j1
        show _ = insF CT t ct j
        unfold zput zrow cpI insF
        rcases Int.lt_trichotomy j t with ee | ee | ee
        · simp (disch := omega) only [if_pos, if_neg, ↓reduceIte, true_and, and_true, true_or, or_true, and_self]; exact hct j j0 (by omega)
        · simp (disch := omega) only [if_pos, if_neg, ↓reduceIte, true_and, and_true, true_or, or_true, and_self]
        · simp (disch := omega) only [if_pos, if_neg, ↓reduceIte, true_and, and_true, true_or, or_true, and_self]
          rw [show t + (j - (t + 1)) = j - 1 by omega]; exact hct (j - 1) (by omega) (by omega)
      · unfold zput zrow cpI; simp (disch := omega) only [if_pos, if_neg, ↓reduceIte, true_and, and_true, true_or, or_true, and_self]; exact h4
    · unfold zput zrow cpI; simp (disch := omega) only [if_pos, if_neg, ↓reduceIte, true_and, and_true, true_or, or_true, and_self]
