/-! CURVES: a corner is numbered in -/
def bmp (t : Int) (f : Int → Int) : Int → Int := fun e => if t ≤ f e then f e + 1 else f e
theorem PsR_ins {m : Int} {X XD Y YD : Int → Int} (hR : PsR m X XD Y YD) {t x xd y yd : Int} (h0 : 0 ≤ t) (h1 : t ≤ m) (hB : PB x xd y yd) : PsR (m + 1) (insF X t x) (insF XD t xd) (insF Y t y) (insF YD t yd) := by
  refine ⟨by have := hR.1; omega, fun k k0 k1 => ?_⟩
  unfold insF
  rcases Int.lt_trichotomy k t with e | e | e
  · rw [if_pos e, if_pos e, if_pos e, if_pos e]; exact hR.2 k k0 (by omega)
  · rw [if_neg (by omega), if_pos e, if_neg (by omega), if_pos e, if_neg (by omega), if_pos e, if_neg (by omega), if_pos e]; exact hB
  · rw [if_neg (by omega), if_neg (by omega), if_neg (by omega), if_neg (by omega), if_neg (by omega), if_neg (by omega), if_neg (by omega), if_neg (by omega)]; exact hR.2 (k - 1) (by omega) (by omega)
theorem PsH_fr {zI zL zI' zL' : ZM} {h : Nat} {m : Int} {X XD Y YD : Int → Int} (hT : PsH zI zL h m X XD Y YD) (hI : zI' h = zI h) (hL : ∀ c, h + 1 ≤ c → c ≤ h + 4 → zL' c = zL c) : PsH zI' zL' h m X XD Y YD := by
  unfold PsH at *
  rw [hI, hL (h + 1) (by omega) (by omega), hL (h + 2) (by omega) (by omega), hL (h + 3) (by omega) (by omega), hL (h + 4) (by omega) (by omega)]
  exact hT
theorem skS_b (m : Int) (X XD Y YD : Int → Int) (x xd y yd : Int) (hm : 0 ≤ m) : 0 ≤ skS m X XD Y YD x xd y yd ∧ skS m X XD Y YD x xd y yd ≤ m := by
  have h1 := (fstN_spec (fun t => decide (0 ≤ cmpP (X t) (XD t) (Y t) (YD t) x xd y yd)) m.toNat 0).1
  have h2 := (fstN_spec (fun t => decide (0 ≤ cmpP (X t) (XD t) (Y t) (YD t) x xd y yd)) m.toNat 0).2.1
  unfold skS
  omega
set_option maxHeartbeats 8000000 in
theorem w_cornerOn {X : PX} {d : Nat} {S : SS} {zI zL : ZM} {Q : PQ} {h : Nat} {n : Int} {I J V : Int → Int} {ne : Int} {fo la fi ls : Int → Int} {m : Int} {X0 XD Y YD : Int → Int} (hC : CvH S zI zL h n I J V ne fo la fi ls m X0 XD Y YD) {e : Int} (h0 : 0 ≤ e) (h1 : e < ne) {k u v : Int} (hk : 0 ≤ k ∧ k < n) (hab : I (la e) ≠ I (fo e) ∨ J (la e) ≠ J (fo e)) (ht : trE I J (fo e) (la e) k ≠ 0) (huv : (u = -(rsE I J V (fo e) (la e) k) ∧ v = trE I J (fo e) (la e) k) ∨ (u = rsE I J V (fo e) (la e) k ∧ v = -(trE I J (fo e) (la e) k))) (hQC : ¬ (skS m X0 XD Y YD (cpX I J V (fo e) (la e) k) (cpXD I J V (fo e) (la e) k) (cpY I J V (fo e) (la e) k) (cpYD I J V (fo e) (la e) k) < m ∧ cmpP (X0 (skS m X0 XD Y YD (cpX I J V (fo e) (la e) k) (cpXD I J V (fo e) (la e) k) (cpY I J V (fo e) (la e) k) (cpYD I J V (fo e) (la e) k))) (XD (skS m X0 XD Y YD (cpX I J V (fo e) (la e) k) (cpXD I J V (fo e) (la e) k) (cpY I J V (fo e) (la e) k) (cpYD I J V (fo e) (la e) k))) (Y (skS m X0 XD Y YD (cpX I J V (fo e) (la e) k) (cpXD I J V (fo e) (la e) k) (cpY I J V (fo e) (la e) k) (cpYD I J V (fo e) (la e) k))) (YD (skS m X0 XD Y YD (cpX I J V (fo e) (la e) k) (cpXD I J V (fo e) (la e) k) (cpY I J V (fo e) (la e) k) (cpYD I J V (fo e) (la e) k))) (cpX I J V (fo e) (la e) k) (cpXD I J V (fo e) (la e) k) (cpY I J V (fo e) (la e) k) (cpYD I J V (fo e) (la e) k) = 0) → m = 75 → ∀ z2, (∀ c, c ≠ h + 5 → z2 c = zL c) → Q (some (pI (-1))) S zI z2) (hQA : (skS m X0 XD Y YD (cpX I J V (fo e) (la e) k) (cpXD I J V (fo e) (la e) k) (cpY I J V (fo e) (la e) k) (cpYD I J V (fo e) (la e) k) < m ∧ cmpP (X0 (skS m X0 XD Y YD (cpX I J V (fo e) (la e) k) (cpXD I J V (fo e) (la e) k) (cpY I J V (fo e) (la e) k) (cpYD I J V (fo e) (la e) k))) (XD (skS m X0 XD Y YD (cpX I J V (fo e) (la e) k) (cpXD I J V (fo e) (la e) k) (cpY I J V (fo e) (la e) k) (cpYD I J V (fo e) (la e) k))) (Y (skS m X0 XD Y YD (cpX I J V (fo e) (la e) k) (cpXD I J V (fo e) (la e) k) (cpY I J V (fo e) (la e) k) (cpYD I J V (fo e) (la e) k))) (YD (skS m X0 XD Y YD (cpX I J V (fo e) (la e) k) (cpXD I J V (fo e) (la e) k) (cpY I J V (fo e) (la e) k) (cpYD I J V (fo e) (la e) k))) (cpX I J V (fo e) (la e) k) (cpXD I J V (fo e) (la e) k) (cpY I J V (fo e) (la e) k) (cpYD I J V (fo e) (la e) k) = 0) → ∀ z2, (∀ c, c ≠ h + 5 → z2 c = zL c) → Q (some (pI (skS m X0 XD Y YD (cpX I J V (fo e) (la e) k) (cpXD I J V (fo e) (la e) k) (cpY I J V (fo e) (la e) k) (cpYD I J V (fo e) (la e) k)))) S zI z2) (hQB : ¬ (skS m X0 XD Y YD (cpX I J V (fo e) (la e) k) (cpXD I J V (fo e) (la e) k) (cpY I J V (fo e) (la e) k) (cpYD I J V (fo e) (la e) k) < m ∧ cmpP (X0 (skS m X0 XD Y YD (cpX I J V (fo e) (la e) k) (cpXD I J V (fo e) (la e) k) (cpY I J V (fo e) (la e) k) (cpYD I J V (fo e) (la e) k))) (XD (skS m X0 XD Y YD (cpX I J V (fo e) (la e) k) (cpXD I J V (fo e) (la e) k) (cpY I J V (fo e) (la e) k) (cpYD I J V (fo e) (la e) k))) (Y (skS m X0 XD Y YD (cpX I J V (fo e) (la e) k) (cpXD I J V (fo e) (la e) k) (cpY I J V (fo e) (la e) k) (cpYD I J V (fo e) (la e) k))) (YD (skS m X0 XD Y YD (cpX I J V (fo e) (la e) k) (cpXD I J V (fo e) (la e) k) (cpY I J V (fo e) (la e) k) (cpYD I J V (fo e) (la e) k))) (cpX I J V (fo e) (la e) k) (cpXD I J V (fo e) (la e) k) (cpY I J V (fo e) (la e) k) (cpYD I J V (fo e) (la e) k) = 0) → m < 75 → ∀ z z2, z (h + 6) 4 = 75 → (∀ c, c ≠ h + 6 → c ≠ h + 13 → c ≠ h + 14 → z c = zI c) → (∀ c, (c < h + 5 ∨ c = h + 6 ∨ h + 10 < c) → z2 c = zL c) → CvH S z z2 h n I J V ne fo la (bmp (skS m X0 XD Y YD (cpX I J V (fo e) (la e) k) (cpXD I J V (fo e) (la e) k) (cpY I J V (fo e) (la e) k) (cpYD I J V (fo e) (la e) k)) fi) (bmp (skS m X0 XD Y YD (cpX I J V (fo e) (la e) k) (cpXD I J V (fo e) (la e) k) (cpY I J V (fo e) (la e) k) (cpYD I J V (fo e) (la e) k)) ls) (m + 1) (insF X0 (skS m X0 XD Y YD (cpX I J V (fo e) (la e) k) (cpXD I J V (fo e) (la e) k) (cpY I J V (fo e) (la e) k) (cpYD I J V (fo e) (la e) k)) (cpX I J V (fo e) (la e) k)) (insF XD (skS m X0 XD Y YD (cpX I J V (fo e) (la e) k) (cpXD I J V (fo e) (la e) k) (cpY I J V (fo e) (la e) k) (cpYD I J V (fo e) (la e) k)) (cpXD I J V (fo e) (la e) k)) (insF Y (skS m X0 XD Y YD (cpX I J V (fo e) (la e) k) (cpXD I J V (fo e) (la e) k) (cpY I J V (fo e) (la e) k) (cpYD I J V (fo e) (la e) k)) (cpY I J V (fo e) (la e) k)) (insF YD (skS m X0 XD Y YD (cpX I J V (fo e) (la e) k) (cpXD I J V (fo e) (la e) k) (cpY I J V (fo e) (la e) k) (cpYD I J V (fo e) (la e) k)) (cpYD I J V (fo e) (la e) k)) → Q (some (pI (skS m X0 XD Y YD (cpX I J V (fo e) (la e) k) (cpXD I J V (fo e) (la e) k) (cpY I J V (fo e) (la e) k) (cpYD I J V (fo e) (la e) k)))) S z z2) (hmost : zI (h + 6) 4 = 75) : wpM X (d + 3) fCurve_cornerOn [pR (h + 4), pI e, pL u, pL v] S zI zL Q := by
  have hC0 := hC
  obtain ⟨hcv, hT, hR, ⟨e8, ⟨hne0, hne1⟩, hed⟩, hP, hPR, hm75⟩ := hC
  obtain ⟨hobc, hform, hpt, hpts, ⟨hr11, hr12, hr13, hr14⟩, ⟨c0, c1, c2, c3⟩, c4, c5, c6, c7⟩ := hcv
  have hform0 := hform
  have hT0 := hT
  have hR0 := hR
  obtain ⟨hob, ⟨hr1, hr2, hr3⟩, hf1, hf2, hf3⟩ := hform
  obtain ⟨e4, hel⟩ := hT
  obtain ⟨hn0, hn40, hrg⟩ := hR
  obtain ⟨⟨q1, q2, q3, q4⟩, q5, q6, q7, q8, q9, q10, q11, q12⟩ := hed e h0 h1
  obtain ⟨a1, a2, a3⟩ := hel (fo e) q5 q6
  obtain ⟨b1, b2, b3⟩ := hel (la e) q7 q8
  have ra := hrg (fo e) q5 q6
  have rb := hrg (la e) q7 q8
  have hob6 := hpts.1
  have hm0 := hPR.1
  have bt := trE_b hR0 (a := fo e) (b := la e) (k := k) ⟨q5, q6⟩ ⟨q7, q8⟩ hk
  have br := rsE_b hR0 (a := fo e) (b := la e) (k := k) ⟨q5, q6⟩ ⟨q7, q8⟩ hk
  have hPB := cp_b hR0 (a := fo e) (b := la e) (k := k) ⟨q5, q6⟩ ⟨q7, q8⟩ hk ht
  obtain ⟨g1, g2, g3, g4⟩ := cp_eq hab ht huv
  have bu : -102400 ≤ u ∧ u ≤ 102400 := by omega
  have bv : -128 ≤ v ∧ v ≤ 128 := by omega
  have bp : -8 ≤ I (la e) - I (fo e) ∧ I (la e) - I (fo e) ≤ 8 := by omega
  have bq : -8 ≤ J (la e) - J (fo e) ∧ J (la e) - J (fo e) ≤ 8 := by omega
  have bc : -400 ≤ V (fo e) - V (la e) ∧ V (fo e) - V (la e) ≤ 400 := by omega
  have c1 := mb bc.1 bc.2 bp.1 bp.2
  have c2 := mb (A := 400 * 8) c1.1 c1.2 bv.1 bv.2
  have c3 := mb bq.1 bq.2 bu.1 bu.2
  have c4 := mb bc.1 bc.2 bq.1 bq.2
  have c5 := mb (A := 400 * 8) c4.1 c4.2 bv.1 bv.2
  have c6 := mb bp.1 bp.2 bu.1 bu.2
  have s1 := sq_b bp
  have s2 := sq_b bq
  have c7 := mb (a := (I (la e) - I (fo e)) * (I (la e) - I (fo e)) + (J (la e) - J (fo e)) * (J (la e) - J (fo e))) (A := 128) (by omega) (by omega) bv.1 bv.2
  have hzn : ∃ zn : ZM, zn = zput (zput (zput (zput zL (h + 5) 0 (cpX I J V (fo e) (la e) k)) (h + 5) 1 (cpXD I J V (fo e) (la e) k)) (h + 5) 2 (cpY I J V (fo e) (la e) k)) (h + 5) 3 (cpYD I J V (fo e) (la e) k) := ⟨_, rfl⟩
  obtain ⟨zn, hzn⟩ := hzn
  have hph : PH zn (h + 5) (cpX I J V (fo e) (la e) k) (cpXD I J V (fo e) (la e) k) (cpY I J V (fo e) (la e) k) (cpYD I J V (fo e) (la e) k) := by
    rw [hzn]; unfold PH zput; simp (disch := omega) only [if_pos, if_neg, ↓reduceIte, true_and, and_true, true_or, or_true, and_self]
  have hznr : ∀ c, c ≠ h + 5 → zn c = zL c := fun c hc => by rw [hzn]; simp only [zput_row hc]
  have hP2 : PsH zI zn (h + 6) m X0 XD Y YD := PsH_fr hP rfl (fun c k0 k1 => hznr c (by omega))
  have htb := skS_b m X0 XD Y YD (cpX I J V (fo e) (la e) k) (cpXD I J V (fo e) (la e) k) (cpY I J V (fo e) (la e) k) (cpYD I J V (fo e) (la e) k) hm0
  obtain ⟨t, htd⟩ : ∃ t : Int, t = skS m X0 XD Y YD (cpX I J V (fo e) (la e) k) (cpXD I J V (fo e) (la e) k) (cpY I J V (fo e) (la e) k) (cpYD I J V (fo e) (la e) k) := ⟨_, rfl⟩
  rw [← htd] at htb hQC hQA hQB
  have hfull : m = 75 → ¬ (t < m ∧ cmpP (X0 t) (XD t) (Y t) (YD t) (cpX I J V (fo e) (la e) k) (cpXD I J V (fo e) (la e) k) (cpY I J V (fo e) (la e) k) (cpYD I J V (fo e) (la e) k) = 0) → Run X (d + 2) c_Curve_cornerOn 66 [some (pR (h + 4)), some (pI e), some (pL u), none, some (pL v), none, some (pL (I (la e) - I (fo e))), none, some (pL (J (la e) - J (fo e))), none, some (pL (V (fo e) - V (la e))), none, some (pI t), none] [pI 0] S zI zn 0 0 Q := by
    intro q1 q2
    clear c1 c2 c3 c4 c5 c6 c7 s1 s2 bu bv bp bq bc bt br g1 g2 g3 g4
    refine r_if_ne rfl (by unfold inI; omega) (fun h66 => absurd rfl h66) (fun _ => ?_)
    refine r_iconst rfl ?_
    refine r_iret rfl ?_
    exact hQC q2 q1 zn hznr
  have loop : m < 75 → ∀ k2 : Int, k2 ≤ ne → 0 ≤ k2 → ∀ z z2 : ZM, (∀ c, c ≠ h + 13 → c ≠ h + 14 → z c = zput zI (h + 6) 5 (m + 1) c) → (∀ c, (c < h + 5 ∨ c = h + 6 ∨ h + 10 < c) → z2 c = zL c) → (∀ j, 0 ≤ j → j < m + 1 → z2 (h + 7) j = insF X0 t (cpX I J V (fo e) (la e) k) j ∧ z2 (h + 8) j = insF XD t (cpXD I J V (fo e) (la e) k) j ∧ z2 (h + 9) j = insF Y t (cpY I J V (fo e) (la e) k) j ∧ z2 (h + 10) j = insF YD t (cpYD I J V (fo e) (la e) k) j) → (∀ e2, 0 ≤ e2 → e2 < ne → z (h + 13) e2 = (if e2 < k2 then bmp t fi e2 else fi e2) ∧ z (h + 14) e2 = (if e2 < k2 then bmp t ls e2 else ls e2)) → ¬ (t < m ∧ cmpP (X0 t) (XD t) (Y t) (YD t) (cpX I J V (fo e) (la e) k) (cpXD I J V (fo e) (la e) k) (cpY I J V (fo e) (la e) k) (cpYD I J V (fo e) (la e) k) = 0) → Run X (d + 2) c_Curve_cornerOn 71 [some (pR (h + 4)), some (pI e), some (pL u), none, some (pL v), none, some (pL (I (la e) - I (fo e))), none, some (pL (J (la e) - J (fo e))), none, some (pL (V (fo e) - V (la e))), none, some (pI t), some (pI k2)] [] S z z2 0 0 Q := by
    clear c1 c2 c3 c4 c5 c6 c7 s1 s2 bu bv bp bq bc bt br g1 g2 g3 g4 a1 a2 a3 b1 b2 b3 ra rb
    intro hm75b
    refine loop_up _ ne (fun k2 hk2 ih h0k z z2 hz hz2 hpt2 hel2 hns => ?_)
    have e8z : z (h + 4) 8 = ne := by rw [hz (h + 4) (by omega) (by omega), zput_row (by omega)]; exact e8
    refine r_iload rfl rfl ?_
    refine r_aload_n rfl rfl ?_
    refine r_getI rfl (by assumption) ?_
    rw [e8z]
    refine r_icmp_ge rfl (by unfold inI; omega) (by unfold inI; omega) (fun h74 => ?_) (fun h74 => ?_)
    · skip
      refine r_iload rfl rfl ?_
      refine r_iret rfl ?_
      refine hQB hns hm75b z z2 (by rw [hz (h + 6) (by omega) (by omega), zput_off (by decide)]; exact hmost) (fun c v1 v2 v3 => by rw [hz c v2 v3, zput_row v1]) hz2 ?_
      refine ⟨hC0.1, ?_, hR0, ⟨e8z, ⟨hne0, hne1⟩, fun e2 p0 p1 => ?_⟩, ⟨?_, fun j p0 p1 => hpt2 j p0 p1⟩, PsR_ins hPR htb.1 htb.2 hPB, by omega⟩
      · refine FH_fr hT0 (fun c v1 v2 => by rw [hz c (by omega) (by omega), zput_row (by omega)])
      · obtain ⟨⟨x1, x2, x3, x4⟩, x5, x6, x7, x8, x9, x10, x11, x12⟩ := hed e2 p0 p1
        obtain ⟨y1, y2⟩ := hel2 e2 p0 p1
        rw [if_pos (by omega)] at y1 y2
        refine ⟨⟨?_, ?_, y1, y2⟩, x5, x6, x7, x8, ?_, ?_, ?_, ?_⟩
        · rw [hz (h + 11) (by omega) (by omega), zput_row (by omega)]; exact x1
        · rw [hz (h + 12) (by omega) (by omega), zput_row (by omega)]; exact x2
        · unfold bmp; split <;> omega
        · unfold bmp; split <;> omega
        · unfold bmp; split <;> omega
        · unfold bmp; split <;> omega
      · rw [hz (h + 6) (by omega) (by omega)]; exact zput_at
    · skip
      obtain ⟨y1, y2⟩ := hel2 k2 h0k (by omega)
      rw [if_neg (by omega)] at y1 y2
      obtain ⟨-, -, -, -, -, w9, w10, w11, w12⟩ := hed k2 h0k (by omega)
      have nx : ∀ z3 : ZM, (∀ c, c ≠ h + 13 → c ≠ h + 14 → z3 c = z c) → (∀ j, j ≠ k2 → z3 (h + 13) j = z (h + 13) j ∧ z3 (h + 14) j = z (h + 14) j) → z3 (h + 13) k2 = bmp t fi k2 → z3 (h + 14) k2 = bmp t ls k2 → (∀ c, c ≠ h + 13 → c ≠ h + 14 → z3 c = zput zI (h + 6) 5 (m + 1) c) ∧ ∀ e2, 0 ≤ e2 → e2 < ne → z3 (h + 13) e2 = (if e2 < k2 + 1 then bmp t fi e2 else fi e2) ∧ z3 (h + 14) e2 = (if e2 < k2 + 1 then bmp t ls e2 else ls e2) := fun z3 v1 v2 v3 v4 => ⟨fun c c1 c2 => (v1 c c1 c2).trans (hz c c1 c2), fun e2 p0 p1 => by
        by_cases ee : e2 = k2
        · subst ee; rw [if_pos (by omega), if_pos (by omega)]; exact ⟨v3, v4⟩
        · rw [(v2 e2 ee).1, (v2 e2 ee).2, (hel2 e2 p0 p1).1, (hel2 e2 p0 p1).2]
          by_cases e3 : e2 < k2
          · rw [if_pos e3, if_pos e3, if_pos (by omega), if_pos (by omega)]; exact ⟨rfl, rfl⟩
          · rw [if_neg e3, if_neg e3, if_neg (by omega), if_neg (by omega)]; exact ⟨rfl, rfl⟩⟩
      refine r_aload_n rfl rfl ?_
      refine r_getR rfl (by assumption) (by assumption) ?_
      refine r_iload rfl rfl ?_
      refine r_iald rfl (by assumption) (by omega) (by omega) ?_
      rw [y1]
      refine r_iload rfl rfl ?_
      refine r_icmp_lt rfl (by unfold inI; omega) (by unfold inI; omega) (fun h80 => ?_) (fun h80 => ?_)
      · skip
        refine r_aload_n rfl rfl ?_
        refine r_getR rfl (by assumption) (by assumption) ?_
        refine r_iload rfl rfl ?_
        refine r_iald rfl (by assumption) (by omega) (by omega) ?_
        rw [y2]
        refine r_iload rfl rfl ?_
        refine r_icmp_lt rfl (by unfold inI; omega) (by unfold inI; omega) (fun h94 => ?_) (fun h94 => ?_)
        · skip
          refine r_iinc rfl rfl ?_
          refine r_goto rfl ?_
          obtain ⟨nx1, nx2⟩ := nx (z) (fun c c1 c2 => by simp only [zput_row c1, zput_row c2]) (fun j hj => by first | exact ⟨rfl, rfl⟩ | (unfold zput; simp (disch := omega) only [if_pos, if_neg, ↓reduceIte, true_and, and_true, true_or, or_true, and_self]; try exact ⟨rfl, rfl⟩)) (by (try unfold zput); unfold bmp; (try simp (disch := omega) only [if_pos, if_neg, ↓reduceIte, true_and, and_true, true_or, or_true, and_self]); try exact y1) (by (try unfold zput); unfold bmp; (try simp (disch := omega) only [if_pos, if_neg, ↓reduceIte, true_and, and_true, true_or, or_true, and_self]); try exact y2)
          exact ih (by omega) (by omega) _ _ nx1 hz2 hpt2 nx2 hns
        · skip
          refine r_aload_n rfl rfl ?_
          refine r_getR rfl (by assumption) (by assumption) ?_
          refine r_iload rfl rfl ?_
          refine r_dup2 rfl ?_
          refine r_iald rfl (by assumption) (by omega) (by omega) ?_
          rw [y2]
          refine r_iconst rfl ?_
          refine r_iadd rfl ?_
          refine r_iast rfl (by assumption) (by omega) (by omega) ?_
          refine r_iinc rfl rfl ?_
          refine r_goto rfl ?_
          obtain ⟨nx1, nx2⟩ := nx (zput z (h + 14) k2 (ls k2 + 1)) (fun c c1 c2 => by simp only [zput_row c1, zput_row c2]) (fun j hj => by first | exact ⟨rfl, rfl⟩ | (unfold zput; simp (disch := omega) only [if_pos, if_neg, ↓reduceIte, true_and, and_true, true_or, or_true, and_self]; try exact ⟨rfl, rfl⟩)) (by (try unfold zput); unfold bmp; (try simp (disch := omega) only [if_pos, if_neg, ↓reduceIte, true_and, and_true, true_or, or_true, and_self]); try exact y1) (by (try unfold zput); unfold bmp; (try simp (disch := omega) only [if_pos, if_neg, ↓reduceIte, true_and, and_true, true_or, or_true, and_self]); try exact y2)
          exact ih (by omega) (by omega) _ _ nx1 hz2 hpt2 nx2 hns
      · skip
        refine r_aload_n rfl rfl ?_
        refine r_getR rfl (by assumption) (by assumption) ?_
        refine r_iload rfl rfl ?_
        refine r_dup2 rfl ?_
        refine r_iald rfl (by assumption) (by omega) (by omega) ?_
        rw [y1]
        refine r_iconst rfl ?_
        refine r_iadd rfl ?_
        refine r_iast rfl (by assumption) (by omega) (by omega) ?_
        refine r_aload_n rfl rfl ?_
        refine r_getR rfl (by assumption) (by assumption) ?_
        refine r_iload rfl rfl ?_
        refine r_iald rfl (by assumption) (by omega) (by omega) ?_
        rw [show zput z (h + 13) k2 (fi k2 + 1) (h + 14) k2 = ls k2 by rw [zput_row (by omega)]; exact y2]
        refine r_iload rfl rfl ?_
        refine r_icmp_lt rfl (by unfold inI; omega) (by unfold inI; omega) (fun h94 => ?_) (fun h94 => ?_)
        · skip
          refine r_iinc rfl rfl ?_
          refine r_goto rfl ?_
          obtain ⟨nx1, nx2⟩ := nx (zput z (h + 13) k2 (fi k2 + 1)) (fun c c1 c2 => by simp only [zput_row c1, zput_row c2]) (fun j hj => by first | exact ⟨rfl, rfl⟩ | (unfold zput; simp (disch := omega) only [if_pos, if_neg, ↓reduceIte, true_and, and_true, true_or, or_true, and_self]; try exact ⟨rfl, rfl⟩)) (by (try unfold zput); unfold bmp; (try simp (disch := omega) only [if_pos, if_neg, ↓reduceIte, true_and, and_true, true_or, or_true, and_self]); try exact y1) (by (try unfold zput); unfold bmp; (try simp (disch := omega) only [if_pos, if_neg, ↓reduceIte, true_and, and_true, true_or, or_true, and_self]); try exact y2)
          exact ih (by omega) (by omega) _ _ nx1 hz2 hpt2 nx2 hns
        · skip
          refine r_aload_n rfl rfl ?_
          refine r_getR rfl (by assumption) (by assumption) ?_
          refine r_iload rfl rfl ?_
          refine r_dup2 rfl ?_
          refine r_iald rfl (by assumption) (by omega) (by omega) ?_
          rw [show zput z (h + 13) k2 (fi k2 + 1) (h + 14) k2 = ls k2 by rw [zput_row (by omega)]; exact y2]
          refine r_iconst rfl ?_
          refine r_iadd rfl ?_
          refine r_iast rfl (by assumption) (by omega) (by omega) ?_
          refine r_iinc rfl rfl ?_
          refine r_goto rfl ?_
          obtain ⟨nx1, nx2⟩ := nx (zput (zput z (h + 13) k2 (fi k2 + 1)) (h + 14) k2 (ls k2 + 1)) (fun c c1 c2 => by simp only [zput_row c1, zput_row c2]) (fun j hj => by first | exact ⟨rfl, rfl⟩ | (unfold zput; simp (disch := omega) only [if_pos, if_neg, ↓reduceIte, true_and, and_true, true_or, or_true, and_self]; try exact ⟨rfl, rfl⟩)) (by (try unfold zput); unfold bmp; (try simp (disch := omega) only [if_pos, if_neg, ↓reduceIte, true_and, and_true, true_or, or_true, and_self]); try exact y1) (by (try unfold zput); unfold bmp; (try simp (disch := omega) only [if_pos, if_neg, ↓reduceIte, true_and, and_true, true_or, or_true, and_self]); try exact y2)
          exact ih (by omega) (by omega) _ _ nx1 hz2 hpt2 nx2 hns
  refine wp_in (C := c_Curve_cornerOn) (ls := [some (pR (h + 4)), some (pI e), some (pL u), none, some (pL v), none, none, none, none, none, none, none, none, none]) rfl rfl rfl rfl rfl ?_
  refine r_aload_n rfl rfl ?_
  refine r_iload_n rfl rfl ?_
  refine r_cV2 rfl hobc (Nat.le_of_ble_eq_true rfl) rfl rfl (w_acrossI hC0 h0 h1 ?_)
  refine r_i2l rfl (by unfold inI; omega) ?_
  refine r_lstore rfl (Nat.le_of_ble_eq_true rfl) ?_
  refine r_aload_n rfl rfl ?_
  refine r_iload_n rfl rfl ?_
  refine r_cV2 rfl hobc (Nat.le_of_ble_eq_true rfl) rfl rfl (w_acrossJ hC0 h0 h1 ?_)
  refine r_i2l rfl (by unfold inI; omega) ?_
  refine r_lstore rfl (Nat.le_of_ble_eq_true rfl) ?_
  refine r_aload_n rfl rfl ?_
  refine r_iload_n rfl rfl ?_
  refine r_cV2 rfl hobc (Nat.le_of_ble_eq_true rfl) rfl rfl (w_level hC0 h0 h1 ?_)
  refine r_i2l rfl (by unfold inI; omega) ?_
  refine r_lstore rfl (Nat.le_of_ble_eq_true rfl) ?_
  refine r_aload_n rfl rfl ?_
  refine r_getR rfl (by assumption) (by assumption) ?_
  refine r_lload rfl rfl ?_
  refine r_lload rfl rfl ?_
  refine r_lmul rfl ?_
  refine r_lload rfl rfl ?_
  refine r_lmul rfl ?_
  refine r_lload rfl rfl ?_
  refine r_lload_n rfl rfl ?_
  refine r_lmul rfl ?_
  refine r_lsub rfl ?_
  refine r_lload rfl rfl ?_
  refine r_lload rfl rfl ?_
  refine r_lmul rfl ?_
  refine r_lload rfl rfl ?_
  refine r_lmul rfl ?_
  refine r_lload rfl rfl ?_
  refine r_lload_n rfl rfl ?_
  refine r_lmul rfl ?_
  refine r_ladd rfl ?_
  refine r_lload rfl rfl ?_
  refine r_lload rfl rfl ?_
  refine r_lmul rfl ?_
  refine r_lload rfl rfl ?_
  refine r_lload rfl rfl ?_
  refine r_lmul rfl ?_
  refine r_ladd rfl ?_
  refine r_lload rfl rfl ?_
  refine r_lmul rfl ?_
  refine r_cV4 rfl hpt (Nat.le_of_ble_eq_true rfl) rfl rfl (w_reduce hpt (by omega) (by omega) (by omega) ?_)
  rw [g1, g2, g3, g4, ← hzn]
  refine r_aload_n rfl rfl ?_
  refine r_getR rfl (by assumption) (by assumption) ?_
  refine r_aload_n rfl rfl ?_
  refine r_getR rfl (by assumption) (by assumption) ?_
  refine r_cV2 rfl hob6 (Nat.le_of_ble_eq_true rfl) rfl rfl (w_seek hpts hP2 hPR hm75 hpt hph hPB (by omega) ?_)
  rw [← htd]
  refine r_istore rfl (Nat.le_of_ble_eq_true rfl) ?_
  refine r_aload_n rfl rfl ?_
  refine r_getR rfl (by assumption) (by assumption) ?_
  refine r_iload rfl rfl ?_
  refine r_aload_n rfl rfl ?_
  refine r_getR rfl (by assumption) (by assumption) ?_
  refine r_cV3 rfl hob6 (Nat.le_of_ble_eq_true rfl) rfl rfl (w_stands hpts hP2 hPR hm75 hpt hph hPB (by omega) htb.1 htb.2 ?_)
  by_cases hst : (t < m ∧ cmpP (X0 t) (XD t) (Y t) (YD t) (cpX I J V (fo e) (la e) k) (cpXD I J V (fo e) (la e) k) (cpY I J V (fo e) (la e) k) (cpYD I J V (fo e) (la e) k) = 0)
  · rw [if_pos hst]
    refine r_if_eq rfl (by unfold inI; omega) (fun h57 => absurd h57 (by decide)) (fun h57 => ?_)
    refine r_iload rfl rfl ?_
    refine r_iret rfl ?_
    exact hQA hst zn hznr
  rw [if_neg hst]
  refine r_if_eq rfl (by unfold inI; omega) (fun h57 => ?_) (fun h57 => ?_)
  · skip
    refine r_aload_n rfl rfl ?_
    refine r_getR rfl (by assumption) (by assumption) ?_
    refine r_iload rfl rfl ?_
    refine r_aload_n rfl rfl ?_
    refine r_getR rfl (by assumption) (by assumption) ?_
    refine r_cV3 rfl hob6 (Nat.le_of_ble_eq_true rfl) rfl rfl (w_insert hpts hP2 hPR hm75 hpt hph (by omega) (by omega) hmost htb.1 htb.2 (fun q => hfull q hst) (fun q z3 hz3 => ?_))
    refine r_if_ne rfl (by unfold inI; omega) (fun h66 => ?_) (fun h66 => ?_)
    · skip
      refine r_iconst rfl ?_
      refine r_istore rfl (Nat.le_of_ble_eq_true rfl) ?_
      refine loop q 0 hne0 (Int.le_refl _) _ z3 (fun c _ _ => rfl) (fun c hc => (hz3.1 c (by omega) (by omega) (by omega) (by omega)).trans (hznr c (by omega))) (fun j p0 p1 => hz3.2 j p0 p1) (fun e2 p0 p1 => ?_) hst
      obtain ⟨⟨x1, x2, x3, x4⟩, -⟩ := hed e2 p0 p1
      rw [if_neg (by omega), if_neg (by omega), zput_row (by omega), zput_row (by omega)]
      exact ⟨x3, x4⟩
    · skip
      refine r_iconst rfl ?_
      refine r_iret rfl ?_
      exact absurd h66 (by decide)
  · skip
    refine r_iload rfl rfl ?_
    refine r_iret rfl ?_
    exact absurd rfl h57
