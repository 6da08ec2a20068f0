/-! CURVES: what is read -/
def CvH (S : SS) (zI zL : ZM) (h : Nat) (n : Int) (I J V : Int → Int) (ne : Int) (fo la fi ls : Int → Int) (m : Int) (X XD Y YD : Int → Int) : Prop :=
  isCurve S h ∧ FH zI h n I J V ∧ FR n I J V ∧ (zI (h + 4) 8 = ne ∧ (0 ≤ ne ∧ ne ≤ 114) ∧ ∀ e, 0 ≤ e → e < ne → (zI (h + 11) e = fo e ∧ zI (h + 12) e = la e ∧ zI (h + 13) e = fi e ∧ zI (h + 14) e = ls e) ∧ 0 ≤ fo e ∧ fo e < n ∧ 0 ≤ la e ∧ la e < n ∧ -1 ≤ fi e ∧ fi e < m ∧ -1 ≤ ls e ∧ ls e < m) ∧
  PsH zI zL (h + 6) m X XD Y YD ∧ PsR m X XD Y YD ∧ m ≤ 75
theorem w_acrossI {X : PX} {d : Nat} {S : SS} {zI zL : ZM} {Q : PQ} {h : Nat} {n : Int} {I J V : Int → Int} {ne : Int} {fo la fi ls : Int → Int} {m : Int} {X0 XD Y YD : Int → Int} (hC : CvH S zI zL h n I J V ne fo la fi ls m X0 XD Y YD) {e : Int} (h0 : 0 ≤ e) (h1 : e < ne) (hQ : Q (some (pI (I (la e) - I (fo e)))) S zI zL) : wpM X (d + 1) fCurve_acrossI [pR (h + 4), pI e] S zI zL Q := by
  have hC0 := hC
  obtain ⟨hcv, hT, hR, ⟨e8, ⟨hne0, hne1⟩, hed⟩, hP, hPR, hm75⟩ := hC
  obtain ⟨hobc, hform, hpt, hpts, ⟨hr11, hr12, hr13, hr14⟩, ⟨c0, c1, c2, c3⟩, c4, c5, c6, c7⟩ := hcv
  have hform0 := hform
  have hT0 := hT
  have hR0 := hR
  obtain ⟨hob, ⟨hr1, hr2, hr3⟩, hf1, hf2, hf3⟩ := hform
  obtain ⟨e4, hel⟩ := hT
  obtain ⟨hn0, hn40, hrg⟩ := hR
  obtain ⟨⟨q1, q2, q3, q4⟩, q5, q6, q7, q8, q9, q10, q11, q12⟩ := hed e h0 h1
  obtain ⟨a1, a2, a3⟩ := hel (fo e) q5 q6
  obtain ⟨b1, b2, b3⟩ := hel (la e) q7 q8
  have ra := hrg (fo e) q5 q6
  have rb := hrg (la e) q7 q8
  refine wp_in (C := c_Curve_acrossI) (ls := [some (pR (h + 4)), some (pI e)]) rfl rfl rfl rfl rfl ?_
  refine r_aload_n rfl rfl ?_
  refine r_getR rfl (by assumption) (by assumption) ?_
  refine r_getR rfl (by assumption) (by assumption) ?_
  refine r_aload_n rfl rfl ?_
  refine r_getR rfl (by assumption) (by assumption) ?_
  refine r_iload_n rfl rfl ?_
  refine r_iald rfl (by assumption) (by omega) (by omega) ?_
  rw [q2]
  refine r_iald rfl (by assumption) (by omega) (by omega) ?_
  rw [b1]
  refine r_aload_n rfl rfl ?_
  refine r_getR rfl (by assumption) (by assumption) ?_
  refine r_getR rfl (by assumption) (by assumption) ?_
  refine r_aload_n rfl rfl ?_
  refine r_getR rfl (by assumption) (by assumption) ?_
  refine r_iload_n rfl rfl ?_
  refine r_iald rfl (by assumption) (by omega) (by omega) ?_
  rw [q1]
  refine r_iald rfl (by assumption) (by omega) (by omega) ?_
  rw [a1]
  refine r_isub rfl ?_
  refine r_iret rfl ?_
  exact hQ
theorem w_acrossJ {X : PX} {d : Nat} {S : SS} {zI zL : ZM} {Q : PQ} {h : Nat} {n : Int} {I J V : Int → Int} {ne : Int} {fo la fi ls : Int → Int} {m : Int} {X0 XD Y YD : Int → Int} (hC : CvH S zI zL h n I J V ne fo la fi ls m X0 XD Y YD) {e : Int} (h0 : 0 ≤ e) (h1 : e < ne) (hQ : Q (some (pI (J (la e) - J (fo e)))) S zI zL) : wpM X (d + 1) fCurve_acrossJ [pR (h + 4), pI e] S zI zL Q := by
  have hC0 := hC
  obtain ⟨hcv, hT, hR, ⟨e8, ⟨hne0, hne1⟩, hed⟩, hP, hPR, hm75⟩ := hC
  obtain ⟨hobc, hform, hpt, hpts, ⟨hr11, hr12, hr13, hr14⟩, ⟨c0, c1, c2, c3⟩, c4, c5, c6, c7⟩ := hcv
  have hform0 := hform
  have hT0 := hT
  have hR0 := hR
  obtain ⟨hob, ⟨hr1, hr2, hr3⟩, hf1, hf2, hf3⟩ := hform
  obtain ⟨e4, hel⟩ := hT
  obtain ⟨hn0, hn40, hrg⟩ := hR
  obtain ⟨⟨q1, q2, q3, q4⟩, q5, q6, q7, q8, q9, q10, q11, q12⟩ := hed e h0 h1
  obtain ⟨a1, a2, a3⟩ := hel (fo e) q5 q6
  obtain ⟨b1, b2, b3⟩ := hel (la e) q7 q8
  have ra := hrg (fo e) q5 q6
  have rb := hrg (la e) q7 q8
  refine wp_in (C := c_Curve_acrossJ) (ls := [some (pR (h + 4)), some (pI e)]) rfl rfl rfl rfl rfl ?_
  refine r_aload_n rfl rfl ?_
  refine r_getR rfl (by assumption) (by assumption) ?_
  refine r_getR rfl (by assumption) (by assumption) ?_
  refine r_aload_n rfl rfl ?_
  refine r_getR rfl (by assumption) (by assumption) ?_
  refine r_iload_n rfl rfl ?_
  refine r_iald rfl (by assumption) (by omega) (by omega) ?_
  rw [q2]
  refine r_iald rfl (by assumption) (by omega) (by omega) ?_
  rw [b2]
  refine r_aload_n rfl rfl ?_
  refine r_getR rfl (by assumption) (by assumption) ?_
  refine r_getR rfl (by assumption) (by assumption) ?_
  refine r_aload_n rfl rfl ?_
  refine r_getR rfl (by assumption) (by assumption) ?_
  refine r_iload_n rfl rfl ?_
  refine r_iald rfl (by assumption) (by omega) (by omega) ?_
  rw [q1]
  refine r_iald rfl (by assumption) (by omega) (by omega) ?_
  rw [a2]
  refine r_isub rfl ?_
  refine r_iret rfl ?_
  exact hQ
theorem w_level {X : PX} {d : Nat} {S : SS} {zI zL : ZM} {Q : PQ} {h : Nat} {n : Int} {I J V : Int → Int} {ne : Int} {fo la fi ls : Int → Int} {m : Int} {X0 XD Y YD : Int → Int} (hC : CvH S zI zL h n I J V ne fo la fi ls m X0 XD Y YD) {e : Int} (h0 : 0 ≤ e) (h1 : e < ne) (hQ : Q (some (pI (V (fo e) - V (la e)))) S zI zL) : wpM X (d + 1) fCurve_level [pR (h + 4), pI e] S zI zL Q := by
  have hC0 := hC
  obtain ⟨hcv, hT, hR, ⟨e8, ⟨hne0, hne1⟩, hed⟩, hP, hPR, hm75⟩ := hC
  obtain ⟨hobc, hform, hpt, hpts, ⟨hr11, hr12, hr13, hr14⟩, ⟨c0, c1, c2, c3⟩, c4, c5, c6, c7⟩ := hcv
  have hform0 := hform
  have hT0 := hT
  have hR0 := hR
  obtain ⟨hob, ⟨hr1, hr2, hr3⟩, hf1, hf2, hf3⟩ := hform
  obtain ⟨e4, hel⟩ := hT
  obtain ⟨hn0, hn40, hrg⟩ := hR
  obtain ⟨⟨q1, q2, q3, q4⟩, q5, q6, q7, q8, q9, q10, q11, q12⟩ := hed e h0 h1
  obtain ⟨a1, a2, a3⟩ := hel (fo e) q5 q6
  obtain ⟨b1, b2, b3⟩ := hel (la e) q7 q8
  have ra := hrg (fo e) q5 q6
  have rb := hrg (la e) q7 q8
  refine wp_in (C := c_Curve_level) (ls := [some (pR (h + 4)), some (pI e)]) rfl rfl rfl rfl rfl ?_
  refine r_aload_n rfl rfl ?_
  refine r_getR rfl (by assumption) (by assumption) ?_
  refine r_getR rfl (by assumption) (by assumption) ?_
  refine r_aload_n rfl rfl ?_
  refine r_getR rfl (by assumption) (by assumption) ?_
  refine r_iload_n rfl rfl ?_
  refine r_iald rfl (by assumption) (by omega) (by omega) ?_
  rw [q1]
  refine r_iald rfl (by assumption) (by omega) (by omega) ?_
  rw [a3]
  refine r_aload_n rfl rfl ?_
  refine r_getR rfl (by assumption) (by assumption) ?_
  refine r_getR rfl (by assumption) (by assumption) ?_
  refine r_aload_n rfl rfl ?_
  refine r_getR rfl (by assumption) (by assumption) ?_
  refine r_iload_n rfl rfl ?_
  refine r_iald rfl (by assumption) (by omega) (by omega) ?_
  rw [q2]
  refine r_iald rfl (by assumption) (by omega) (by omega) ?_
  rw [b3]
  refine r_isub rfl ?_
  refine r_iret rfl ?_
  exact hQ
theorem w_weight {X : PX} {d : Nat} {S : SS} {zI zL : ZM} {Q : PQ} {h : Nat} {n : Int} {I J V : Int → Int} {ne : Int} {fo la fi ls : Int → Int} {m : Int} {X0 XD Y YD : Int → Int} (hC : CvH S zI zL h n I J V ne fo la fi ls m X0 XD Y YD) {e : Int} (h0 : 0 ≤ e) (h1 : e < ne) (hQ : Q (some (pI (gc (I (la e) - I (fo e)) (J (la e) - J (fo e))))) S zI zL) : wpM X (d + 2) fCurve_weight [pR (h + 4), pI e] S zI zL Q := by
  have hC0 := hC
  obtain ⟨hcv, hT, hR, ⟨e8, ⟨hne0, hne1⟩, hed⟩, hP, hPR, hm75⟩ := hC
  obtain ⟨hobc, hform, hpt, hpts, ⟨hr11, hr12, hr13, hr14⟩, ⟨c0, c1, c2, c3⟩, c4, c5, c6, c7⟩ := hcv
  have hform0 := hform
  have hT0 := hT
  have hR0 := hR
  obtain ⟨hob, ⟨hr1, hr2, hr3⟩, hf1, hf2, hf3⟩ := hform
  obtain ⟨e4, hel⟩ := hT
  obtain ⟨hn0, hn40, hrg⟩ := hR
  obtain ⟨⟨q1, q2, q3, q4⟩, q5, q6, q7, q8, q9, q10, q11, q12⟩ := hed e h0 h1
  obtain ⟨a1, a2, a3⟩ := hel (fo e) q5 q6
  obtain ⟨b1, b2, b3⟩ := hel (la e) q7 q8
  have ra := hrg (fo e) q5 q6
  have rb := hrg (la e) q7 q8
  refine wp_in (C := c_Curve_weight) (ls := [some (pR (h + 4)), some (pI e)]) rfl rfl rfl rfl rfl ?_
  refine r_aload_n rfl rfl ?_
  refine r_iload_n rfl rfl ?_
  refine r_cV2 rfl hobc (Nat.le_of_ble_eq_true rfl) rfl rfl (w_acrossI hC0 h0 h1 ?_)
  refine r_i2l rfl (by unfold inI; omega) ?_
  refine r_aload_n rfl rfl ?_
  refine r_iload_n rfl rfl ?_
  refine r_cV2 rfl hobc (Nat.le_of_ble_eq_true rfl) rfl rfl (w_acrossJ hC0 h0 h1 ?_)
  refine r_i2l rfl (by unfold inI; omega) ?_
  refine r_cS2 rfl (by decide) (Nat.le_of_ble_eq_true rfl) rfl rfl (w_gcd (by omega) (by omega) ?_)
  refine r_l2i rfl ?_
  refine r_iret rfl ?_
  exact hQ
theorem w_b8 {n e : Int} {I J V : Int → Int} (hR : FR n I J V) {a b : Int} (h0 : 0 ≤ a ∧ a < n) (h1 : 0 ≤ b ∧ b < n) : (1 ≤ gc (I b - I a) (J b - J a) ∧ gc (I b - I a) (J b - J a) ≤ 8) ∧ (-8 ≤ I b - I a ∧ I b - I a ≤ 8) ∧ (-8 ≤ J b - J a ∧ J b - J a ≤ 8) := by
  have h2 := hR.2.2 a h0.1 h0.2
  have h3 := hR.2.2 b h1.1 h1.2
  exact ⟨gc_b (by omega) (by omega) (by omega), by omega, by omega⟩
theorem w_directionX {X : PX} {d : Nat} {S : SS} {zI zL : ZM} {Q : PQ} {h : Nat} {n : Int} {I J V : Int → Int} {ne : Int} {fo la fi ls : Int → Int} {m : Int} {X0 XD Y YD : Int → Int} (hC : CvH S zI zL h n I J V ne fo la fi ls m X0 XD Y YD) {e : Int} (h0 : 0 ≤ e) (h1 : e < ne) (hQ : Q (some (pI ((-(J (la e) - J (fo e))).tdiv (gc (I (la e) - I (fo e)) (J (la e) - J (fo e)))))) S zI zL) : wpM X (d + 3) fCurve_directionX [pR (h + 4), pI e] S zI zL Q := by
  have hC0 := hC
  obtain ⟨hcv, hT, hR, ⟨e8, ⟨hne0, hne1⟩, hed⟩, hP, hPR, hm75⟩ := hC
  obtain ⟨hobc, hform, hpt, hpts, ⟨hr11, hr12, hr13, hr14⟩, ⟨c0, c1, c2, c3⟩, c4, c5, c6, c7⟩ := hcv
  have hform0 := hform
  have hT0 := hT
  have hR0 := hR
  obtain ⟨hob, ⟨hr1, hr2, hr3⟩, hf1, hf2, hf3⟩ := hform
  obtain ⟨e4, hel⟩ := hT
  obtain ⟨hn0, hn40, hrg⟩ := hR
  obtain ⟨⟨q1, q2, q3, q4⟩, q5, q6, q7, q8, q9, q10, q11, q12⟩ := hed e h0 h1
  obtain ⟨a1, a2, a3⟩ := hel (fo e) q5 q6
  obtain ⟨b1, b2, b3⟩ := hel (la e) q7 q8
  have ra := hrg (fo e) q5 q6
  have rb := hrg (la e) q7 q8
  have hw := w_b8 (e := e) hR0 ⟨q5, q6⟩ ⟨q7, q8⟩
  refine wp_in (C := c_Curve_directionX) (ls := [some (pR (h + 4)), some (pI e)]) rfl rfl rfl rfl rfl ?_
  refine r_aload_n rfl rfl ?_
  refine r_iload_n rfl rfl ?_
  refine r_cV2 rfl hobc (Nat.le_of_ble_eq_true rfl) rfl rfl (w_acrossJ hC0 h0 h1 ?_)
  refine r_ineg rfl ?_
  refine r_aload_n rfl rfl ?_
  refine r_iload_n rfl rfl ?_
  refine r_cV2 rfl hobc (Nat.le_of_ble_eq_true rfl) rfl rfl (w_weight hC0 h0 h1 ?_)
  refine r_idiv rfl (by unfold inI; omega) (by unfold inI; omega) (by omega) ?_
  refine r_iret rfl ?_
  exact hQ
theorem w_directionY {X : PX} {d : Nat} {S : SS} {zI zL : ZM} {Q : PQ} {h : Nat} {n : Int} {I J V : Int → Int} {ne : Int} {fo la fi ls : Int → Int} {m : Int} {X0 XD Y YD : Int → Int} (hC : CvH S zI zL h n I J V ne fo la fi ls m X0 XD Y YD) {e : Int} (h0 : 0 ≤ e) (h1 : e < ne) (hQ : Q (some (pI (((I (la e) - I (fo e))).tdiv (gc (I (la e) - I (fo e)) (J (la e) - J (fo e)))))) S zI zL) : wpM X (d + 3) fCurve_directionY [pR (h + 4), pI e] S zI zL Q := by
  have hC0 := hC
  obtain ⟨hcv, hT, hR, ⟨e8, ⟨hne0, hne1⟩, hed⟩, hP, hPR, hm75⟩ := hC
  obtain ⟨hobc, hform, hpt, hpts, ⟨hr11, hr12, hr13, hr14⟩, ⟨c0, c1, c2, c3⟩, c4, c5, c6, c7⟩ := hcv
  have hform0 := hform
  have hT0 := hT
  have hR0 := hR
  obtain ⟨hob, ⟨hr1, hr2, hr3⟩, hf1, hf2, hf3⟩ := hform
  obtain ⟨e4, hel⟩ := hT
  obtain ⟨hn0, hn40, hrg⟩ := hR
  obtain ⟨⟨q1, q2, q3, q4⟩, q5, q6, q7, q8, q9, q10, q11, q12⟩ := hed e h0 h1
  obtain ⟨a1, a2, a3⟩ := hel (fo e) q5 q6
  obtain ⟨b1, b2, b3⟩ := hel (la e) q7 q8
  have ra := hrg (fo e) q5 q6
  have rb := hrg (la e) q7 q8
  have hw := w_b8 (e := e) hR0 ⟨q5, q6⟩ ⟨q7, q8⟩
  refine wp_in (C := c_Curve_directionY) (ls := [some (pR (h + 4)), some (pI e)]) rfl rfl rfl rfl rfl ?_
  refine r_aload_n rfl rfl ?_
  refine r_iload_n rfl rfl ?_
  refine r_cV2 rfl hobc (Nat.le_of_ble_eq_true rfl) rfl rfl (w_acrossI hC0 h0 h1 ?_)
  refine r_aload_n rfl rfl ?_
  refine r_iload_n rfl rfl ?_
  refine r_cV2 rfl hobc (Nat.le_of_ble_eq_true rfl) rfl rfl (w_weight hC0 h0 h1 ?_)
  refine r_idiv rfl (by unfold inI; omega) (by unfold inI; omega) (by omega) ?_
  refine r_iret rfl ?_
  exact hQ
def knd (f l : Int) : Int := if f ≠ -1 ∧ l ≠ -1 then 1 else if f ≠ -1 ∨ l ≠ -1 then 2 else 3
theorem w_kindOf {X : PX} {d : Nat} {S : SS} {zI zL : ZM} {Q : PQ} {h : Nat} {n : Int} {I J V : Int → Int} {ne : Int} {fo la fi ls : Int → Int} {m : Int} {X0 XD Y YD : Int → Int} (hC : CvH S zI zL h n I J V ne fo la fi ls m X0 XD Y YD) {e : Int} (h0 : 0 ≤ e) (h1 : e < ne) (hQ : Q (some (pI (knd (fi e) (ls e)))) S zI zL) : wpM X (d + 1) fCurve_kindOf [pR (h + 4), pI e] S zI zL Q := by
  have hC0 := hC
  obtain ⟨hcv, hT, hR, ⟨e8, ⟨hne0, hne1⟩, hed⟩, hP, hPR, hm75⟩ := hC
  obtain ⟨hobc, hform, hpt, hpts, ⟨hr11, hr12, hr13, hr14⟩, ⟨c0, c1, c2, c3⟩, c4, c5, c6, c7⟩ := hcv
  have hform0 := hform
  have hT0 := hT
  have hR0 := hR
  obtain ⟨hob, ⟨hr1, hr2, hr3⟩, hf1, hf2, hf3⟩ := hform
  obtain ⟨e4, hel⟩ := hT
  obtain ⟨hn0, hn40, hrg⟩ := hR
  obtain ⟨⟨q1, q2, q3, q4⟩, q5, q6, q7, q8, q9, q10, q11, q12⟩ := hed e h0 h1
  obtain ⟨a1, a2, a3⟩ := hel (fo e) q5 q6
  obtain ⟨b1, b2, b3⟩ := hel (la e) q7 q8
  have ra := hrg (fo e) q5 q6
  have rb := hrg (la e) q7 q8
  refine wp_in (C := c_Curve_kindOf) (ls := [some (pR (h + 4)), some (pI e)]) rfl rfl rfl rfl rfl ?_
  refine r_aload_n rfl rfl ?_
  refine r_getR rfl (by assumption) (by assumption) ?_
  refine r_iload_n rfl rfl ?_
  refine r_iald rfl (by assumption) (by omega) (by omega) ?_
  rw [q3]
  refine r_iconst rfl ?_
  refine r_icmp_eq rfl (by unfold inI; omega) (by unfold inI; omega) (fun h5 => ?_) (fun h5 => ?_)
  · skip
    refine r_aload_n rfl rfl ?_
    refine r_getR rfl (by assumption) (by assumption) ?_
    refine r_iload_n rfl rfl ?_
    refine r_iald rfl (by assumption) (by omega) (by omega) ?_
    rw [q3]
    refine r_iconst rfl ?_
    refine r_icmp_ne rfl (by unfold inI; omega) (by unfold inI; omega) (fun h19 => ?_) (fun h19 => ?_)
    · skip
      refine r_iconst rfl ?_
      refine r_goto rfl ?_
      refine r_iret rfl ?_
      rw [show knd (fi e) (ls e) = _ by unfold knd; first | rw [if_pos (by omega)] | rw [if_neg (by omega), if_pos (by omega)] | rw [if_neg (by omega), if_neg (by omega)]] at hQ
      first | exact hQ | (exfalso; omega)
    · skip
      refine r_aload_n rfl rfl ?_
      refine r_getR rfl (by assumption) (by assumption) ?_
      refine r_iload_n rfl rfl ?_
      refine r_iald rfl (by assumption) (by omega) (by omega) ?_
      rw [q4]
      refine r_iconst rfl ?_
      refine r_icmp_eq rfl (by unfold inI; omega) (by unfold inI; omega) (fun h25 => ?_) (fun h25 => ?_)
      · skip
        refine r_iconst rfl ?_
        refine r_iret rfl ?_
        rw [show knd (fi e) (ls e) = _ by unfold knd; first | rw [if_pos (by omega)] | rw [if_neg (by omega), if_pos (by omega)] | rw [if_neg (by omega), if_neg (by omega)]] at hQ
        first | exact hQ | (exfalso; omega)
      · skip
        refine r_iconst rfl ?_
        refine r_goto rfl ?_
        refine r_iret rfl ?_
        rw [show knd (fi e) (ls e) = _ by unfold knd; first | rw [if_pos (by omega)] | rw [if_neg (by omega), if_pos (by omega)] | rw [if_neg (by omega), if_neg (by omega)]] at hQ
        first | exact hQ | (exfalso; omega)
  · skip
    refine r_aload_n rfl rfl ?_
    refine r_getR rfl (by assumption) (by assumption) ?_
    refine r_iload_n rfl rfl ?_
    refine r_iald rfl (by assumption) (by omega) (by omega) ?_
    rw [q4]
    refine r_iconst rfl ?_
    refine r_icmp_eq rfl (by unfold inI; omega) (by unfold inI; omega) (fun h11 => ?_) (fun h11 => ?_)
    · skip
      refine r_aload_n rfl rfl ?_
      refine r_getR rfl (by assumption) (by assumption) ?_
      refine r_iload_n rfl rfl ?_
      refine r_iald rfl (by assumption) (by omega) (by omega) ?_
      rw [q3]
      refine r_iconst rfl ?_
      refine r_icmp_ne rfl (by unfold inI; omega) (by unfold inI; omega) (fun h19 => ?_) (fun h19 => ?_)
      · skip
        refine r_iconst rfl ?_
        refine r_goto rfl ?_
        refine r_iret rfl ?_
        rw [show knd (fi e) (ls e) = _ by unfold knd; first | rw [if_pos (by omega)] | rw [if_neg (by omega), if_pos (by omega)] | rw [if_neg (by omega), if_neg (by omega)]] at hQ
        first | exact hQ | (exfalso; omega)
      · skip
        refine r_aload_n rfl rfl ?_
        refine r_getR rfl (by assumption) (by assumption) ?_
        refine r_iload_n rfl rfl ?_
        refine r_iald rfl (by assumption) (by omega) (by omega) ?_
        rw [q4]
        refine r_iconst rfl ?_
        refine r_icmp_eq rfl (by unfold inI; omega) (by unfold inI; omega) (fun h25 => ?_) (fun h25 => ?_)
        · skip
          refine r_iconst rfl ?_
          refine r_iret rfl ?_
          rw [show knd (fi e) (ls e) = _ by unfold knd; first | rw [if_pos (by omega)] | rw [if_neg (by omega), if_pos (by omega)] | rw [if_neg (by omega), if_neg (by omega)]] at hQ
          first | exact hQ | (exfalso; omega)
        · skip
          refine r_iconst rfl ?_
          refine r_goto rfl ?_
          refine r_iret rfl ?_
          rw [show knd (fi e) (ls e) = _ by unfold knd; first | rw [if_pos (by omega)] | rw [if_neg (by omega), if_pos (by omega)] | rw [if_neg (by omega), if_neg (by omega)]] at hQ
          first | exact hQ | (exfalso; omega)
    · skip
      refine r_iconst rfl ?_
      refine r_iret rfl ?_
      rw [show knd (fi e) (ls e) = _ by unfold knd; first | rw [if_pos (by omega)] | rw [if_neg (by omega), if_pos (by omega)] | rw [if_neg (by omega), if_neg (by omega)]] at hQ
      first | exact hQ | (exfalso; omega)
theorem knd_b (f l : Int) : 1 ≤ knd f l ∧ knd f l ≤ 3 := by unfold knd; split <;> (try split) <;> omega
theorem w_countKind {X : PX} {d : Nat} {S : SS} {zI zL : ZM} {Q : PQ} {h : Nat} {n : Int} {I J V : Int → Int} {ne : Int} {fo la fi ls : Int → Int} {m : Int} {X0 XD Y YD : Int → Int} (hC : CvH S zI zL h n I J V ne fo la fi ls m X0 XD Y YD) {k : Int} (hk : inI k) (hQ : Q (some (pI (cnt (fun e => decide (knd (fi e) (ls e) = k)) ne.toNat 0))) S zI zL) : wpM X (d + 2) fCurve_countKind [pR (h + 4), pI k] S zI zL Q := by
  have hC0 := hC
  obtain ⟨hcv, hT, hR, ⟨e8, ⟨hne0, hne1⟩, hed⟩, hP, hPR, hm75⟩ := hC
  obtain ⟨hobc, hform, hpt, hpts, ⟨hr11, hr12, hr13, hr14⟩, ⟨c0, c1, c2, c3⟩, c4, c5, c6, c7⟩ := hcv
  have hform0 := hform
  have hT0 := hT
  have hR0 := hR
  obtain ⟨hob, ⟨hr1, hr2, hr3⟩, hf1, hf2, hf3⟩ := hform
  obtain ⟨e4, hel⟩ := hT
  obtain ⟨hn0, hn40, hrg⟩ := hR
  have key : ∀ e : Int, e ≤ ne → 0 ≤ e → ∀ c : Int, 0 ≤ c → c ≤ e → c + cnt (fun e => decide (knd (fi e) (ls e) = k)) (ne - e).toNat e = cnt (fun e => decide (knd (fi e) (ls e) = k)) ne.toNat 0 → Run X (d + 1) c_Curve_countKind 4 [some (pR (h + 4)), some (pI k), some (pI c), some (pI e)] [] S zI zL 0 0 Q := by
    refine loop_up _ ne (fun e he ih h0 c hc0 hce hs => ?_)
    have hkb := knd_b (fi e) (ls e)
    refine r_iload_n rfl rfl ?_
    refine r_aload_n rfl rfl ?_
    refine r_getI rfl (by assumption) ?_
    refine r_icmp_ge rfl (by unfold inI; omega) (by unfold inI; omega) (fun h7 => ?_) (fun h7 => ?_)
    · skip
      refine r_iload_n rfl rfl ?_
      refine r_iret rfl ?_
      rw [cnt_e (by omega), Int.add_zero] at hs; rw [hs]; exact hQ
    · skip
      refine r_aload_n rfl rfl ?_
      refine r_iload_n rfl rfl ?_
      refine r_cV2 rfl hobc (Nat.le_of_ble_eq_true rfl) rfl rfl (w_kindOf hC0 h0 (by omega) ?_)
      refine r_iload_n rfl rfl ?_
      refine r_icmp_ne rfl (by unfold inI; omega) hk (fun h12 => ?_) (fun h12 => ?_)
      · skip
        refine r_iinc rfl rfl ?_
        refine r_goto rfl ?_
        exact ih (by omega) (by omega) _ (by omega) (by omega) (by rw [cnt_s (by omega), if_neg (by simp only [decide_eq_true_eq]; exact h12)] at hs; omega)
      · skip
        refine r_iinc rfl rfl ?_
        refine r_iinc rfl rfl ?_
        refine r_goto rfl ?_
        exact ih (by omega) (by omega) _ (by omega) (by omega) (by rw [cnt_s (by omega), if_pos (by simp only [decide_eq_true_eq]; exact h12)] at hs; omega)
  refine wp_in (C := c_Curve_countKind) (ls := [some (pR (h + 4)), some (pI k), none, none]) rfl rfl rfl rfl rfl ?_
  refine r_iconst rfl ?_
  refine r_istore_n rfl (Nat.le_of_ble_eq_true rfl) ?_
  refine r_iconst rfl ?_
  refine r_istore_n rfl (Nat.le_of_ble_eq_true rfl) ?_
  exact key 0 hne0 (Int.le_refl _) 0 (Int.le_refl _) (Int.le_refl _) (by rw [Int.sub_zero, Int.zero_add])
theorem w_countEdgesAt {X : PX} {d : Nat} {S : SS} {zI zL : ZM} {Q : PQ} {h : Nat} {n : Int} {I J V : Int → Int} {ne : Int} {fo la fi ls : Int → Int} {m : Int} {X0 XD Y YD : Int → Int} (hC : CvH S zI zL h n I J V ne fo la fi ls m X0 XD Y YD) {k : Int} (hk : 0 ≤ k ∧ k ≤ 1000) (hQ : Q (some (pI (cnt (fun e => decide (fi e = k) || decide (ls e = k)) ne.toNat 0))) S zI zL) : wpM X (d + 1) fCurve_countEdgesAt [pR (h + 4), pI k] S zI zL Q := by
  have hC0 := hC
  obtain ⟨hcv, hT, hR, ⟨e8, ⟨hne0, hne1⟩, hed⟩, hP, hPR, hm75⟩ := hC
  obtain ⟨hobc, hform, hpt, hpts, ⟨hr11, hr12, hr13, hr14⟩, ⟨c0, c1, c2, c3⟩, c4, c5, c6, c7⟩ := hcv
  have hform0 := hform
  have hT0 := hT
  have hR0 := hR
  obtain ⟨hob, ⟨hr1, hr2, hr3⟩, hf1, hf2, hf3⟩ := hform
  obtain ⟨e4, hel⟩ := hT
  obtain ⟨hn0, hn40, hrg⟩ := hR
  have key : ∀ e : Int, e ≤ ne → 0 ≤ e → ∀ c : Int, 0 ≤ c → c ≤ e → c + cnt (fun e => decide (fi e = k) || decide (ls e = k)) (ne - e).toNat e = cnt (fun e => decide (fi e = k) || decide (ls e = k)) ne.toNat 0 → Run X d c_Curve_countEdgesAt 4 [some (pR (h + 4)), some (pI k), some (pI c), some (pI e)] [] S zI zL 0 0 Q := by
    refine loop_up _ ne (fun e he ih h0 c hc0 hce hs => ?_)
    refine r_iload_n rfl rfl ?_
    refine r_aload_n rfl rfl ?_
    refine r_getI rfl (by assumption) ?_
    refine r_icmp_ge rfl (by unfold inI; omega) (by unfold inI; omega) (fun h7 => ?_) (fun h7 => ?_)
    · skip
      refine r_iload_n rfl rfl ?_
      refine r_iret rfl ?_
      rw [cnt_e (by omega), Int.add_zero] at hs; rw [hs]; exact hQ
    · skip
      obtain ⟨⟨q1, q2, q3, q4⟩, q5, q6, q7, q8, q9, q10, q11, q12⟩ := hed e h0 (by omega)
      refine r_aload_n rfl rfl ?_
      refine r_getR rfl (by assumption) (by assumption) ?_
      refine r_iload_n rfl rfl ?_
      refine r_iald rfl (by assumption) (by omega) (by omega) ?_
      rw [q3]
      refine r_iload_n rfl rfl ?_
      refine r_icmp_eq rfl (by unfold inI; omega) (by unfold inI; omega) (fun h13 => ?_) (fun h13 => ?_)
      · skip
        refine r_iinc rfl rfl ?_
        refine r_iinc rfl rfl ?_
        refine r_goto rfl ?_
        exact ih (by omega) (by omega) _ (by omega) (by omega) (by rw [cnt_s (by omega), if_pos (by simp only [Bool.or_eq_true, decide_eq_true_eq]; omega)] at hs; omega)
      · skip
        refine r_aload_n rfl rfl ?_
        refine r_getR rfl (by assumption) (by assumption) ?_
        refine r_iload_n rfl rfl ?_
        refine r_iald rfl (by assumption) (by omega) (by omega) ?_
        rw [q4]
        refine r_iload_n rfl rfl ?_
        refine r_icmp_ne rfl (by unfold inI; omega) (by unfold inI; omega) (fun h19 => ?_) (fun h19 => ?_)
        · skip
          refine r_iinc rfl rfl ?_
          refine r_goto rfl ?_
          exact ih (by omega) (by omega) _ (by omega) (by omega) (by rw [cnt_s (by omega), if_neg (by simp only [Bool.or_eq_true, decide_eq_true_eq]; omega)] at hs; omega)
        · skip
          refine r_iinc rfl rfl ?_
          refine r_iinc rfl rfl ?_
          refine r_goto rfl ?_
          exact ih (by omega) (by omega) _ (by omega) (by omega) (by rw [cnt_s (by omega), if_pos (by simp only [Bool.or_eq_true, decide_eq_true_eq]; omega)] at hs; omega)
  refine wp_in (C := c_Curve_countEdgesAt) (ls := [some (pR (h + 4)), some (pI k), none, none]) rfl rfl rfl rfl rfl ?_
  refine r_iconst rfl ?_
  refine r_istore_n rfl (Nat.le_of_ble_eq_true rfl) ?_
  refine r_iconst rfl ?_
  refine r_istore_n rfl (Nat.le_of_ble_eq_true rfl) ?_
  exact key 0 hne0 (Int.le_refl _) 0 (Int.le_refl _) (Int.le_refl _) (by rw [Int.sub_zero, Int.zero_add])
theorem w_countRows {X : PX} {d : Nat} {S : SS} {zI zL : ZM} {Q : PQ} {h : Nat} {n : Int} {I J V : Int → Int} {ne : Int} {fo la fi ls : Int → Int} {m : Int} {X0 XD Y YD : Int → Int} (hC : CvH S zI zL h n I J V ne fo la fi ls m X0 XD Y YD) (hQ : Q (some (pI (4 * (ne + m)))) S zI zL) : wpM X (d + 1) fCurve_countRows [pR (h + 4)] S zI zL Q := by
  have hC0 := hC
  obtain ⟨hcv, hT, hR, ⟨e8, ⟨hne0, hne1⟩, hed⟩, hP, hPR, hm75⟩ := hC
  obtain ⟨hobc, hform, hpt, hpts, ⟨hr11, hr12, hr13, hr14⟩, ⟨c0, c1, c2, c3⟩, c4, c5, c6, c7⟩ := hcv
  have hform0 := hform
  have hT0 := hT
  have hR0 := hR
  obtain ⟨hob, ⟨hr1, hr2, hr3⟩, hf1, hf2, hf3⟩ := hform
  obtain ⟨e4, hel⟩ := hT
  obtain ⟨hn0, hn40, hrg⟩ := hR
  have hob6 := hpts.1
  have e5 := hP.1
  refine wp_in (C := c_Curve_countRows) (ls := [some (pR (h + 4))]) rfl rfl rfl rfl rfl ?_
  refine r_iconst rfl ?_
  refine r_aload_n rfl rfl ?_
  refine r_getI rfl (by assumption) ?_
  rw [e8]
  refine r_aload_n rfl rfl ?_
  refine r_getR rfl (by assumption) (by assumption) ?_
  refine r_getI rfl (by assumption) ?_
  rw [e5]
  refine r_iadd rfl ?_
  refine r_imul rfl ?_
  refine r_iret rfl ?_
  exact hQ
/-- a TERM that ends no EDGE, among two TERMS or more -/
def idlC (n ne : Int) (fo la : Int → Int) (t : Int) : Int := if 2 ≤ n ∧ srch (fun e => decide (fo e = t) || decide (la e = t)) ne.toNat 0 = -1 then 1 else 0
theorem w_isIdle {X : PX} {d : Nat} {S : SS} {zI zL : ZM} {Q : PQ} {h : Nat} {n : Int} {I J V : Int → Int} {ne : Int} {fo la fi ls : Int → Int} {m : Int} {X0 XD Y YD : Int → Int} (hC : CvH S zI zL h n I J V ne fo la fi ls m X0 XD Y YD) {t : Int} (ht : 0 ≤ t ∧ t < n) (hQ : Q (some (pI (idlC n ne fo la t))) S zI zL) : wpM X (d + 1) fCurve_isIdle [pR (h + 4), pI t] S zI zL Q := by
  have hC0 := hC
  obtain ⟨hcv, hT, hR, ⟨e8, ⟨hne0, hne1⟩, hed⟩, hP, hPR, hm75⟩ := hC
  obtain ⟨hobc, hform, hpt, hpts, ⟨hr11, hr12, hr13, hr14⟩, ⟨c0, c1, c2, c3⟩, c4, c5, c6, c7⟩ := hcv
  have hform0 := hform
  have hT0 := hT
  have hR0 := hR
  obtain ⟨hob, ⟨hr1, hr2, hr3⟩, hf1, hf2, hf3⟩ := hform
  obtain ⟨e4, hel⟩ := hT
  obtain ⟨hn0, hn40, hrg⟩ := hR
  have key : 2 ≤ n → ∀ e : Int, e ≤ ne → 0 ≤ e → srch (fun e => decide (fo e = t) || decide (la e = t)) (ne - e).toNat e = srch (fun e => decide (fo e = t) || decide (la e = t)) ne.toNat 0 → Run X d c_Curve_isIdle 9 [some (pR (h + 4)), some (pI t), some (pI e)] [] S zI zL 0 0 Q := by
    intro hn2
    refine loop_up _ ne (fun e he ih h0 hs => ?_)
    refine r_iload_n rfl rfl ?_
    refine r_aload_n rfl rfl ?_
    refine r_getI rfl (by assumption) ?_
    refine r_icmp_ge rfl (by unfold inI; omega) (by unfold inI; omega) (fun h12 => ?_) (fun h12 => ?_)
    · skip
      refine r_iconst rfl ?_
      refine r_zret rfl (by first | exact Or.inl rfl | exact Or.inr rfl) ?_
      rw [srch_end (by omega)] at hs; unfold idlC at hQ; rw [if_pos ⟨hn2, hs.symm⟩] at hQ; exact hQ
    · skip
      obtain ⟨⟨q1, q2, q3, q4⟩, q5, q6, q7, q8, q9, q10, q11, q12⟩ := hed e h0 (by omega)
      refine r_aload_n rfl rfl ?_
      refine r_getR rfl (by assumption) (by assumption) ?_
      refine r_iload_n rfl rfl ?_
      refine r_iald rfl (by assumption) (by omega) (by omega) ?_
      rw [q1]
      refine r_iload_n rfl rfl ?_
      refine r_icmp_eq rfl (by unfold inI; omega) (by unfold inI; omega) (fun h18 => ?_) (fun h18 => ?_)
      · skip
        refine r_iconst rfl ?_
        refine r_zret rfl (by first | exact Or.inl rfl | exact Or.inr rfl) ?_
        rw [srch_hit (by omega) (by simp only [Bool.or_eq_true, decide_eq_true_eq]; omega)] at hs; unfold idlC at hQ; rw [if_neg (fun q => by have := q.2; omega)] at hQ; exact hQ
      · skip
        refine r_aload_n rfl rfl ?_
        refine r_getR rfl (by assumption) (by assumption) ?_
        refine r_iload_n rfl rfl ?_
        refine r_iald rfl (by assumption) (by omega) (by omega) ?_
        rw [q2]
        refine r_iload_n rfl rfl ?_
        refine r_icmp_ne rfl (by unfold inI; omega) (by unfold inI; omega) (fun h24 => ?_) (fun h24 => ?_)
        · skip
          refine r_iinc rfl rfl ?_
          refine r_goto rfl ?_
          exact ih (by omega) (by omega) (by rw [← srch_miss (by omega) (by simp only [Bool.or_eq_false_iff, decide_eq_false_iff_not]; omega)]; exact hs)
        · skip
          refine r_iconst rfl ?_
          refine r_zret rfl (by first | exact Or.inl rfl | exact Or.inr rfl) ?_
          rw [srch_hit (by omega) (by simp only [Bool.or_eq_true, decide_eq_true_eq]; omega)] at hs; unfold idlC at hQ; rw [if_neg (fun q => by have := q.2; omega)] at hQ; exact hQ
  refine wp_in (C := c_Curve_isIdle) (ls := [some (pR (h + 4)), some (pI t), none]) rfl rfl rfl rfl rfl ?_
  refine r_aload_n rfl rfl ?_
  refine r_getR rfl (by assumption) (by assumption) ?_
  refine r_getI rfl (by assumption) ?_
  refine r_iconst rfl ?_
  refine r_icmp_ge rfl (by unfold inI; omega) (by unfold inI; omega) (fun h4 => ?_) (fun h4 => ?_)
  · skip
    refine r_iconst rfl ?_
    refine r_istore_n rfl (Nat.le_of_ble_eq_true rfl) ?_
    exact key (by omega) 0 hne0 (Int.le_refl _) (by rw [Int.sub_zero])
  · skip
    refine r_iconst rfl ?_
    refine r_zret rfl (by first | exact Or.inl rfl | exact Or.inr rfl) ?_
    unfold idlC at hQ; rw [if_neg (fun q => by have := q.1; omega)] at hQ; exact hQ
theorem idlC_b (n ne : Int) (fo la : Int → Int) (t : Int) : idlC n ne fo la t = 0 ∨ idlC n ne fo la t = 1 := by unfold idlC; split; exact Or.inr rfl; exact Or.inl rfl
theorem w_countIdle {X : PX} {d : Nat} {S : SS} {zI zL : ZM} {Q : PQ} {h : Nat} {n : Int} {I J V : Int → Int} {ne : Int} {fo la fi ls : Int → Int} {m : Int} {X0 XD Y YD : Int → Int} (hC : CvH S zI zL h n I J V ne fo la fi ls m X0 XD Y YD) (hQ : Q (some (pI (cnt (fun t => decide (idlC n ne fo la t ≠ 0)) n.toNat 0))) S zI zL) : wpM X (d + 2) fCurve_countIdle [pR (h + 4)] S zI zL Q := by
  have hC0 := hC
  obtain ⟨hcv, hT, hR, ⟨e8, ⟨hne0, hne1⟩, hed⟩, hP, hPR, hm75⟩ := hC
  obtain ⟨hobc, hform, hpt, hpts, ⟨hr11, hr12, hr13, hr14⟩, ⟨c0, c1, c2, c3⟩, c4, c5, c6, c7⟩ := hcv
  have hform0 := hform
  have hT0 := hT
  have hR0 := hR
  obtain ⟨hob, ⟨hr1, hr2, hr3⟩, hf1, hf2, hf3⟩ := hform
  obtain ⟨e4, hel⟩ := hT
  obtain ⟨hn0, hn40, hrg⟩ := hR
  have key : ∀ t : Int, t ≤ n → 0 ≤ t → ∀ c : Int, 0 ≤ c → c ≤ t → c + cnt (fun t => decide (idlC n ne fo la t ≠ 0)) (n - t).toNat t = cnt (fun t => decide (idlC n ne fo la t ≠ 0)) n.toNat 0 → Run X (d + 1) c_Curve_countIdle 4 [some (pR (h + 4)), some (pI c), some (pI t)] [] S zI zL 0 0 Q := by
    refine loop_up _ n (fun t ht ih h0 c hc0 hce hs => ?_)
    have hib := idlC_b n ne fo la t
    refine r_iload_n rfl rfl ?_
    refine r_aload_n rfl rfl ?_
    refine r_getR rfl (by assumption) (by assumption) ?_
    refine r_getI rfl (by assumption) ?_
    refine r_icmp_ge rfl (by unfold inI; omega) (by unfold inI; omega) (fun h8 => ?_) (fun h8 => ?_)
    · skip
      refine r_iload_n rfl rfl ?_
      refine r_iret rfl ?_
      rw [cnt_e (by omega), Int.add_zero] at hs; rw [hs]; exact hQ
    · skip
      refine r_aload_n rfl rfl ?_
      refine r_iload_n rfl rfl ?_
      refine r_cV2 rfl hobc (Nat.le_of_ble_eq_true rfl) rfl rfl (w_isIdle hC0 ⟨h0, by omega⟩ ?_)
      refine r_if_eq rfl (by unfold inI; omega) (fun h12 => ?_) (fun h12 => ?_)
      · skip
        refine r_iinc rfl rfl ?_
        refine r_goto rfl ?_
        exact ih (by omega) (by omega) _ (by omega) (by omega) (by rw [cnt_s (by omega), if_neg (by simp only [decide_eq_true_eq]; omega)] at hs; omega)
      · skip
        refine r_iinc rfl rfl ?_
        refine r_iinc rfl rfl ?_
        refine r_goto rfl ?_
        exact ih (by omega) (by omega) _ (by omega) (by omega) (by rw [cnt_s (by omega), if_pos (by simp only [decide_eq_true_eq]; omega)] at hs; omega)
  refine wp_in (C := c_Curve_countIdle) (ls := [some (pR (h + 4)), none, none]) rfl rfl rfl rfl rfl ?_
  refine r_iconst rfl ?_
  refine r_istore_n rfl (Nat.le_of_ble_eq_true rfl) ?_
  refine r_iconst rfl ?_
  refine r_istore_n rfl (Nat.le_of_ble_eq_true rfl) ?_
  exact key 0 hn0 (Int.le_refl _) 0 (Int.le_refl _) (Int.le_refl _) (by rw [Int.sub_zero, Int.zero_add])
