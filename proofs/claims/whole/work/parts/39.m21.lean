/-! CROSSINGS -/
def isCr (S : SS) : Prop := ob S 13 0 ∧ isPoints S 14 128 ∧ row S 12 19 128 ∧ (isPoint S 20 ∧ isPoint S 21 ∧ isPoint S 22) ∧ S.2 13 0 = some 14 ∧ S.2 13 1 = some 19 ∧ S.2 13 2 = some 20 ∧ S.2 13 3 = some 21 ∧ S.2 13 4 = some 22
theorem cmpA_b (p q x xd y yd x' xd' y' yd' : Int) : -1 ≤ cmpA p q x xd y yd x' xd' y' yd' ∧ cmpA p q x xd y yd x' xd' y' yd' ≤ 1 := by unfold cmpA; split <;> (try split) <;> omega
/-- whether a corner has two least terms of another form -/
def tchS (n2 : Int) (I2 J2 V2 : Int → Int) (m : Int) (X XD Y YD : Int → Int) : Int := if srch (fun k => decide (2 ≤ countS n2 I2 J2 V2 (X k) (XD k) (Y k) (YD k))) m.toNat 0 = -1 then 0 else 1
def bgnS (p q a b : Int) (X XD Y YD X2 XD2 Y2 YD2 : Int → Int) : Int := if a = -1 ∨ b = -1 then 1 else if cmpA p q (X a) (XD a) (Y a) (YD a) (X2 b) (XD2 b) (Y2 b) (YD2 b) < 0 then 1 else 0
def hldS (p q x xd y yd a b : Int) (X XD Y YD : Int → Int) : Int := if a ≠ -1 ∧ cmpA p q x xd y yd (X a) (XD a) (Y a) (YD a) < 0 then 0 else if b ≠ -1 ∧ 0 < cmpA p q x xd y yd (X b) (XD b) (Y b) (YD b) then 0 else 1
theorem hldS_b (p q x xd y yd a b : Int) (X XD Y YD : Int → Int) : hldS p q x xd y yd a b X XD Y YD = 0 ∨ hldS p q x xd y yd a b X XD Y YD = 1 := by unfold hldS; split; exact Or.inl rfl; split; exact Or.inl rfl; exact Or.inr rfl
theorem bgnS_b (p q a b : Int) (X XD Y YD X2 XD2 Y2 YD2 : Int → Int) : bgnS p q a b X XD Y YD X2 XD2 Y2 YD2 = 0 ∨ bgnS p q a b X XD Y YD X2 XD2 Y2 YD2 = 1 := by unfold bgnS; split; exact Or.inr rfl; split; exact Or.inr rfl; exact Or.inl rfl
theorem ph_put {z : ZM} {p : Nat} {x xd y yd : Int} : PH (zput (zput (zput (zput z p 0 x) p 1 xd) p 2 y) p 3 yd) p x xd y yd := by
  unfold PH zput; simp (disch := omega) only [if_pos, if_neg, ↓reduceIte, true_and, and_true, true_or, or_true, and_self]
theorem w_touches {X : PX} {d : Nat} {S : SS} {zI zL : ZM} {Q : PQ} (hX : isCr S) {h : Nat} {n : Int} {I J V : Int → Int} {ne : Int} {fo la fi ls : Int → Int} {m : Int} {X0 XD Y YD : Int → Int} (hC : CvH S zI zL h n I J V ne fo la fi ls m X0 XD Y YD) {h2 : Nat} {n2 : Int} {I2 J2 V2 : Int → Int} (hF2 : isForm S h2) (hT2 : FH zI h2 n2 I2 J2 V2) (hR2 : FR n2 I2 J2 V2) (h26 : 26 ≤ h) (hQ : ∀ z2, (∀ c, c ≠ 20 → z2 c = zL c) → Q (some (pI (tchS n2 I2 J2 V2 m X0 XD Y YD))) S zI z2) : wpM X (d + 5) fCrossing_touches [pR 13, pR (h + 4), pR h2] S zI zL Q := by
  obtain ⟨xob, xps, xr19, ⟨xp0, xp1, xp2⟩, x0, x1, x2, x3, x4⟩ := hX
  have hC0 := hC
  obtain ⟨hcv, hT, hR, ⟨e8, ⟨hne0, hne1⟩, hed⟩, hP, hPR, hm75⟩ := hC
  obtain ⟨hobc, hform, hpt, hpts, ⟨hr11, hr12, hr13, hr14⟩, ⟨c0, c1, c2, c3⟩, c4, c5, c6, c7⟩ := hcv
  have hform0 := hform
  have hT0 := hT
  have hR0 := hR
  obtain ⟨hob, ⟨hr1, hr2, hr3⟩, hf1, hf2, hf3⟩ := hform
  obtain ⟨e4, hel⟩ := hT
  obtain ⟨hn0, hn40, hrg⟩ := hR
  have hob6 := hpts.1
  have hob2 := hF2.1
  have hm0 := hPR.1
  have e5 := hP.1
  have key : ∀ k : Int, k ≤ m → 0 ≤ k → ∀ z2 : ZM, (∀ c, c ≠ 20 → z2 c = zL c) → srch (fun k => decide (2 ≤ countS n2 I2 J2 V2 (X0 k) (XD k) (Y k) (YD k))) (m - k).toNat k = srch (fun k => decide (2 ≤ countS n2 I2 J2 V2 (X0 k) (XD k) (Y k) (YD k))) m.toNat 0 → Run X (d + 4) c_Crossing_touches 2 [some (pR 13), some (pR (h + 4)), some (pR h2), some (pI k)] [] S zI z2 0 0 Q := by
    refine loop_up _ m (fun k hk ih h0 z2 hz2 hs => ?_)
    have hP2 : PsH zI z2 (h + 6) m X0 XD Y YD := PsH_fr hP rfl (fun c k0 k1 => hz2 c (by omega))
    have hcb := cnt_b (fun t => decide (wv (I2 t) (J2 t) (V2 t) (X0 k) (XD k) (Y k) (YD k) = leastS n2 I2 J2 V2 (X0 k) (XD k) (Y k) (YD k))) n2.toNat 0
    have hn2 := hR2.2.1
    have hcb2 : 0 ≤ countS n2 I2 J2 V2 (X0 k) (XD k) (Y k) (YD k) ∧ countS n2 I2 J2 V2 (X0 k) (XD k) (Y k) (YD k) ≤ 40 := by unfold countS; omega
    refine r_iload_n rfl rfl ?_
    refine r_aload_n rfl rfl ?_
    refine r_getR rfl (by assumption) (by assumption) ?_
    refine r_getI rfl hob6 ?_
    rw [e5]
    refine r_icmp_ge rfl (by unfold inI; omega) (by unfold inI; omega) (fun h6 => ?_) (fun h6 => ?_)
    · skip
      refine r_iconst rfl ?_
      refine r_zret rfl (by first | exact Or.inl rfl | exact Or.inr rfl) ?_
      rw [srch_end (by omega)] at hs; unfold tchS at hQ; rw [if_pos hs.symm] at hQ; exact hQ _ hz2
    · skip
      refine r_aload_n rfl rfl ?_
      refine r_getR rfl (by assumption) (by assumption) ?_
      refine r_iload_n rfl rfl ?_
      refine r_aload_n rfl rfl ?_
      refine r_getR rfl (by assumption) (by assumption) ?_
      refine r_cV3 rfl hob6 (Nat.le_of_ble_eq_true rfl) rfl rfl (w_fetch hpts hP2 hPR hm75 xp0 (Or.inl (by omega)) h0 (by omega) ?_)
      refine r_aload_n rfl rfl ?_
      refine r_aload_n rfl rfl ?_
      refine r_getR rfl (by assumption) (by assumption) ?_
      refine r_cV2 rfl hob2 (Nat.le_of_ble_eq_true rfl) rfl rfl (w_countLeast hF2 hT2 hR2 xp0 ph_put (hPR.2 k h0 (by omega)) ?_)
      refine r_iconst rfl ?_
      refine r_icmp_lt rfl (by unfold inI; omega) (by unfold inI; omega) (fun h18 => ?_) (fun h18 => ?_)
      · skip
        refine r_iinc rfl rfl ?_
        refine r_goto rfl ?_
        exact ih (by omega) (by omega) _ (fun c hc => by rw [zput_row hc, zput_row hc, zput_row hc, zput_row hc]; exact hz2 c hc) (by rw [← srch_miss (by omega) (decide_eq_false (by omega))]; exact hs)
      · skip
        refine r_iconst rfl ?_
        refine r_zret rfl (by first | exact Or.inl rfl | exact Or.inr rfl) ?_
        rw [srch_hit (by omega) (decide_eq_true (by omega))] at hs; unfold tchS at hQ; rw [if_neg (by omega)] at hQ; exact hQ _ (fun c hc => by rw [zput_row hc, zput_row hc, zput_row hc, zput_row hc]; exact hz2 c hc)
  refine wp_in (C := c_Crossing_touches) (ls := [some (pR 13), some (pR (h + 4)), some (pR h2), none]) rfl rfl rfl rfl rfl ?_
  refine r_iconst rfl ?_
  refine r_istore_n rfl (Nat.le_of_ble_eq_true rfl) ?_
  exact key 0 hm0 (Int.le_refl _) zL (fun c _ => rfl) (by rw [Int.sub_zero])
theorem w_beginsBefore {X : PX} {d : Nat} {S : SS} {zI zL : ZM} {Q : PQ} (hX : isCr S) {h : Nat} {n : Int} {I J V : Int → Int} {ne : Int} {fo la fi ls : Int → Int} {m : Int} {X0 XD Y YD : Int → Int} (hC : CvH S zI zL h n I J V ne fo la fi ls m X0 XD Y YD) {h2 : Nat} {n2 : Int} {I2 J2 V2 : Int → Int} {ne2 : Int} {fo2 la2 fi2 ls2 : Int → Int} {m2 : Int} {X2 XD2 Y2 YD2 : Int → Int} (hD : CvH S zI zL h2 n2 I2 J2 V2 ne2 fo2 la2 fi2 ls2 m2 X2 XD2 Y2 YD2) {e : Int} (h0 : 0 ≤ e) (h1 : e < ne) {f : Int} (f0 : 0 ≤ f) (f1 : f < ne2) (h26 : 26 ≤ h) (h262 : 26 ≤ h2) (hQ : ∀ z2, (∀ c, c ≠ 21 → c ≠ 22 → z2 c = zL c) → Q (some (pI (bgnS (I (la e) - I (fo e)) (J (la e) - J (fo e)) (fi e) (ls2 f) X0 XD Y YD X2 XD2 Y2 YD2))) S zI z2) : wpM X (d + 3) fCrossing_beginsBefore [pR 13, pR (h + 4), pI e, pR (h2 + 4), pI f] S zI zL Q := by
  obtain ⟨xob, xps, xr19, ⟨xp0, xp1, xp2⟩, x0, x1, x2, x3, x4⟩ := hX
  have hC0 := hC
  obtain ⟨hcv, hT, hR, ⟨e8, ⟨hne0, hne1⟩, hed⟩, hP, hPR, hm75⟩ := hC
  obtain ⟨hobc, hform, hpt, hpts, ⟨hr11, hr12, hr13, hr14⟩, ⟨c0, c1, c2, c3⟩, c4, c5, c6, c7⟩ := hcv
  have hform0 := hform
  have hT0 := hT
  have hR0 := hR
  obtain ⟨hob, ⟨hr1, hr2, hr3⟩, hf1, hf2, hf3⟩ := hform
  obtain ⟨e4, hel⟩ := hT
  obtain ⟨hn0, hn40, hrg⟩ := hR
  obtain ⟨⟨q1, q2, q3, q4⟩, q5, q6, q7, q8, q9, q10, q11, q12⟩ := hed e h0 h1
  obtain ⟨a1, a2, a3⟩ := hel (fo e) q5 q6
  obtain ⟨b1, b2, b3⟩ := hel (la e) q7 q8
  have ra := hrg (fo e) q5 q6
  have rb := hrg (la e) q7 q8
  obtain ⟨hcv2, hT2, hR2, ⟨-, ⟨-, hne2⟩, hed2⟩, hP2, hPR2, hm752⟩ := hD
  obtain ⟨hobc2, -, -, hpts2, ⟨-, -, -, gr14⟩, ⟨d0, -, -, d3⟩, -, -, -, d7⟩ := hcv2
  obtain ⟨⟨-, -, -, y4⟩, -, -, -, -, -, -, y11, y12⟩ := hed2 f f0 f1
  have hob6 := hpts.1
  have hob62 := hpts2.1
  have hcb := cmpA_b (I (la e) - I (fo e)) (J (la e) - J (fo e)) (X0 (fi e)) (XD (fi e)) (Y (fi e)) (YD (fi e)) (X2 (ls2 f)) (XD2 (ls2 f)) (Y2 (ls2 f)) (YD2 (ls2 f))
  have hPf : ∀ z : ZM, (∀ c, c ≠ 21 → z c = zL c) → PsH zI z (h2 + 6) m2 X2 XD2 Y2 YD2 := fun z hz => PsH_fr hP2 rfl (fun c k0 k1 => hz c (by omega))
  have hCf : ∀ z : ZM, (∀ c, c ≠ 21 → c ≠ 22 → z c = zL c) → CvH S zI z h n I J V ne fo la fi ls m X0 XD Y YD := fun z hz => CvH_fr hC0 (fun c _ _ => rfl) (fun c k0 k1 => hz c (by omega) (by omega))
  refine wp_in (C := c_Crossing_beginsBefore) (ls := [some (pR 13), some (pR (h + 4)), some (pI e), some (pR (h2 + 4)), some (pI f)]) rfl rfl rfl rfl rfl ?_
  refine r_aload_n rfl rfl ?_
  refine r_getR rfl hobc (by assumption) ?_
  refine r_iload_n rfl rfl ?_
  refine r_iald rfl hr13 (by omega) (by omega) ?_
  rw [q3]
  refine r_iconst rfl ?_
  refine r_icmp_eq rfl (by unfold inI; omega) (by unfold inI; omega) (fun h5 => ?_) (fun h5 => ?_)
  · skip
    refine r_iconst rfl ?_
    refine r_zret rfl (by first | exact Or.inl rfl | exact Or.inr rfl) ?_
    unfold bgnS at hQ; rw [if_pos (Or.inl (by omega))] at hQ; exact hQ _ (fun c _ _ => rfl)
  · skip
    refine r_aload_n rfl rfl ?_
    refine r_getR rfl hobc2 (by assumption) ?_
    refine r_iload rfl rfl ?_
    refine r_iald rfl gr14 (by omega) (by omega) ?_
    rw [y4]
    refine r_iconst rfl ?_
    refine r_icmp_ne rfl (by unfold inI; omega) (by unfold inI; omega) (fun h11 => ?_) (fun h11 => ?_)
    · skip
      refine r_aload_n rfl rfl ?_
      refine r_getR rfl hobc (by assumption) ?_
      refine r_aload_n rfl rfl ?_
      refine r_getR rfl hobc (by assumption) ?_
      refine r_iload_n rfl rfl ?_
      refine r_iald rfl hr13 (by omega) (by omega) ?_
      rw [q3]
      refine r_aload_n rfl rfl ?_
      refine r_getR rfl (by assumption) (by assumption) ?_
      refine r_cV3 rfl hob6 (Nat.le_of_ble_eq_true rfl) rfl rfl (w_fetch hpts hP hPR hm75 xp1 (Or.inl (by omega)) (by omega) q10 ?_)
      have fr1 : ∀ c, c ≠ 21 → zput (zput (zput (zput zL 21 0 (X0 (fi e))) 21 1 (XD (fi e))) 21 2 (Y (fi e))) 21 3 (YD (fi e)) c = zL c := fun c hc => by rw [zput_row hc, zput_row hc, zput_row hc, zput_row hc]
      refine r_aload_n rfl rfl ?_
      refine r_getR rfl hobc2 (by assumption) ?_
      refine r_aload_n rfl rfl ?_
      refine r_getR rfl hobc2 (by assumption) ?_
      refine r_iload rfl rfl ?_
      refine r_iald rfl gr14 (by omega) (by omega) ?_
      rw [y4]
      refine r_aload_n rfl rfl ?_
      refine r_getR rfl (by assumption) (by assumption) ?_
      refine r_cV3 rfl hob62 (Nat.le_of_ble_eq_true rfl) rfl rfl (w_fetch hpts2 (hPf _ fr1) hPR2 hm752 xp2 (Or.inl (by omega)) (by omega) y12 ?_)
      have fr2 : ∀ c, c ≠ 21 → c ≠ 22 → zput (zput (zput (zput (zput (zput (zput (zput zL 21 0 (X0 (fi e))) 21 1 (XD (fi e))) 21 2 (Y (fi e))) 21 3 (YD (fi e))) 22 0 (X2 (ls2 f))) 22 1 (XD2 (ls2 f))) 22 2 (Y2 (ls2 f))) 22 3 (YD2 (ls2 f)) c = zL c := fun c hc hc2 => by rw [zput_row hc2, zput_row hc2, zput_row hc2, zput_row hc2]; exact fr1 c hc
      refine r_aload_n rfl rfl ?_
      refine r_getR rfl (by assumption) (by assumption) ?_
      refine r_aload_n rfl rfl ?_
      refine r_getR rfl (by assumption) (by assumption) ?_
      refine r_aload_n rfl rfl ?_
      refine r_iload_n rfl rfl ?_
      refine r_cV2 rfl hobc (Nat.le_of_ble_eq_true rfl) rfl rfl (w_acrossI (hCf _ fr2) h0 h1 ?_)
      refine r_aload_n rfl rfl ?_
      refine r_iload_n rfl rfl ?_
      refine r_cV2 rfl hobc (Nat.le_of_ble_eq_true rfl) rfl rfl (w_acrossJ (hCf _ fr2) h0 h1 ?_)
      refine r_cV4 rfl xp1 (Nat.le_of_ble_eq_true rfl) rfl rfl (w_cmpAlong xp1 (by unfold PH; rw [zput_row (by decide), zput_row (by decide), zput_row (by decide), zput_row (by decide)]; exact ph_put) xp2 ph_put (hPR.2 _ (by omega) q10) (hPR2.2 _ (by omega) y12) (by omega) (by omega) ?_)
      refine r_if_ge rfl (by unfold inI; omega) (fun h43 => ?_) (fun h43 => ?_)
      · skip
        refine r_iconst rfl ?_
        refine r_zret rfl (by first | exact Or.inl rfl | exact Or.inr rfl) ?_
        unfold bgnS at hQ; rw [if_neg (by omega), if_neg (by omega)] at hQ; exact hQ _ fr2
      · skip
        refine r_iconst rfl ?_
        refine r_goto rfl ?_
        refine r_zret rfl (by first | exact Or.inl rfl | exact Or.inr rfl) ?_
        unfold bgnS at hQ; rw [if_neg (by omega), if_pos (by omega)] at hQ; exact hQ _ fr2
    · skip
      refine r_iconst rfl ?_
      refine r_zret rfl (by first | exact Or.inl rfl | exact Or.inr rfl) ?_
      unfold bgnS at hQ; rw [if_pos (Or.inr (by omega))] at hQ; exact hQ _ (fun c _ _ => rfl)
theorem w_overlap {X : PX} {d : Nat} {S : SS} {zI zL : ZM} {Q : PQ} (hX : isCr S) {h : Nat} {n : Int} {I J V : Int → Int} {ne : Int} {fo la fi ls : Int → Int} {m : Int} {X0 XD Y YD : Int → Int} (hC : CvH S zI zL h n I J V ne fo la fi ls m X0 XD Y YD) {h2 : Nat} {n2 : Int} {I2 J2 V2 : Int → Int} {ne2 : Int} {fo2 la2 fi2 ls2 : Int → Int} {m2 : Int} {X2 XD2 Y2 YD2 : Int → Int} (hD : CvH S zI zL h2 n2 I2 J2 V2 ne2 fo2 la2 fi2 ls2 m2 X2 XD2 Y2 YD2) {e : Int} (h0 : 0 ≤ e) (h1 : e < ne) {f : Int} (f0 : 0 ≤ f) (f1 : f < ne2) (h26 : 26 ≤ h) (h262 : 26 ≤ h2) (hQ : ∀ z2, (∀ c, c ≠ 21 → c ≠ 22 → z2 c = zL c) → Q (some (pI (if bgnS (I (la e) - I (fo e)) (J (la e) - J (fo e)) (fi e) (ls2 f) X0 XD Y YD X2 XD2 Y2 YD2 = 1 ∧ bgnS (I2 (la2 f) - I2 (fo2 f)) (J2 (la2 f) - J2 (fo2 f)) (fi2 f) (ls e) X2 XD2 Y2 YD2 X0 XD Y YD = 1 then 1 else 0))) S zI z2) : wpM X (d + 4) fCrossing_overlap [pR 13, pR (h + 4), pI e, pR (h2 + 4), pI f] S zI zL Q := by
  have xob := hX.1
  have b1 := bgnS_b (I (la e) - I (fo e)) (J (la e) - J (fo e)) (fi e) (ls2 f) X0 XD Y YD X2 XD2 Y2 YD2
  have b2 := bgnS_b (I2 (la2 f) - I2 (fo2 f)) (J2 (la2 f) - J2 (fo2 f)) (fi2 f) (ls e) X2 XD2 Y2 YD2 X0 XD Y YD
  refine wp_in (C := c_Crossing_overlap) (ls := [some (pR 13), some (pR (h + 4)), some (pI e), some (pR (h2 + 4)), some (pI f)]) rfl rfl rfl rfl rfl ?_
  refine r_aload_n rfl rfl ?_
  refine r_aload_n rfl rfl ?_
  refine r_iload_n rfl rfl ?_
  refine r_aload_n rfl rfl ?_
  refine r_iload rfl rfl ?_
  refine r_cV5 rfl xob (Nat.le_of_ble_eq_true rfl) rfl rfl (w_beginsBefore hX hC hD h0 h1 f0 f1 h26 h262 (fun z3 f3 => ?_))
  refine r_if_eq rfl (by unfold inI; omega) (fun h6 => ?_) (fun h6 => ?_)
  · skip
    refine r_iconst rfl ?_
    refine r_zret rfl (by first | exact Or.inl rfl | exact Or.inr rfl) ?_
    rw [if_neg (fun q => by have := q.1; omega)] at hQ; exact hQ _ f3
  · skip
    refine r_aload_n rfl rfl ?_
    refine r_aload_n rfl rfl ?_
    refine r_iload rfl rfl ?_
    refine r_aload_n rfl rfl ?_
    refine r_iload_n rfl rfl ?_
    refine r_cV5 rfl xob (Nat.le_of_ble_eq_true rfl) rfl rfl (w_beginsBefore hX (CvH_fr hD (fun c _ _ => rfl) (fun c k0 k1 => f3 c (by omega) (by omega))) (CvH_fr hC (fun c _ _ => rfl) (fun c k0 k1 => f3 c (by omega) (by omega))) f0 f1 h0 h1 h262 h26 (fun z4 f4 => ?_))
    refine r_if_eq rfl (by unfold inI; omega) (fun h13 => ?_) (fun h13 => ?_)
    · skip
      refine r_iconst rfl ?_
      refine r_zret rfl (by first | exact Or.inl rfl | exact Or.inr rfl) ?_
      rw [if_neg (fun q => by have := q.2; omega)] at hQ; exact hQ _ (fun c k0 k1 => (f4 c k0 k1).trans (f3 c k0 k1))
    · skip
      refine r_iconst rfl ?_
      refine r_goto rfl ?_
      refine r_zret rfl (by first | exact Or.inl rfl | exact Or.inr rfl) ?_
      rw [if_pos ⟨by omega, by omega⟩] at hQ; exact hQ _ (fun c k0 k1 => (f4 c k0 k1).trans (f3 c k0 k1))
