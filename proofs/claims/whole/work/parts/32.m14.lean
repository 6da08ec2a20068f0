/-! CURVES: standing in another; the stretch of two TERMS -/
abbrev stdB (n ne : Int) (I J V fo la : Int → Int) (n2 ne2 : Int) (I2 J2 V2 fo2 la2 : Int → Int) (t : Int) : Prop := idlC n ne fo la t = 0 ∧ ¬ (fnd n2 I2 J2 (I t) (J t) ≠ -1 ∧ V2 (fnd n2 I2 J2 (I t) (J t)) = V t ∧ idlC n2 ne2 fo2 la2 (fnd n2 I2 J2 (I t) (J t)) = 0)
def stdS (n ne : Int) (I J V fo la : Int → Int) (n2 ne2 : Int) (I2 J2 V2 fo2 la2 : Int → Int) : Int := if srch (fun t => decide (stdB n ne I J V fo la n2 ne2 I2 J2 V2 fo2 la2 t)) n.toNat 0 = -1 then 1 else 0
theorem fnd_b (n : Int) (I J : Int → Int) (a b : Int) (hn : 0 ≤ n) : fnd n I J a b = -1 ∨ (0 ≤ fnd n I J a b ∧ fnd n I J a b < n) := by
  rcases srch_in (fun t => decide (I t = a ∧ J t = b)) n.toNat 0 with h | h
  · exact Or.inl h
  · exact Or.inr ⟨h.1, by have := h.2.1; unfold fnd; omega⟩
set_option maxHeartbeats 4000000 in
theorem w_standsIn {X : PX} {d : Nat} {S : SS} {zI zL : ZM} {Q : PQ} {h : Nat} {n : Int} {I J V : Int → Int} {ne : Int} {fo la fi ls : Int → Int} {m : Int} {X0 XD Y YD : Int → Int} (hC : CvH S zI zL h n I J V ne fo la fi ls m X0 XD Y YD) {h2 : Nat} {n2 : Int} {I2 J2 V2 : Int → Int} {ne2 : Int} {fo2 la2 fi2 ls2 : Int → Int} {m2 : Int} {X2 XD2 Y2 YD2 : Int → Int} (hD : CvH S zI zL h2 n2 I2 J2 V2 ne2 fo2 la2 fi2 ls2 m2 X2 XD2 Y2 YD2) (hQ : Q (some (pI (stdS n ne I J V fo la n2 ne2 I2 J2 V2 fo2 la2))) S zI zL) : wpM X (d + 2) fCurve_standsIn [pR (h + 4), pR (h2 + 4)] S zI zL Q := by
  have hC0 := hC
  obtain ⟨hcv, hT, hR, ⟨e8, ⟨hne0, hne1⟩, hed⟩, hP, hPR, hm75⟩ := hC
  obtain ⟨hobc, hform, hpt, hpts, ⟨hr11, hr12, hr13, hr14⟩, ⟨c0, c1, c2, c3⟩, c4, c5, c6, c7⟩ := hcv
  have hform0 := hform
  have hT0 := hT
  have hR0 := hR
  obtain ⟨hob, ⟨hr1, hr2, hr3⟩, hf1, hf2, hf3⟩ := hform
  obtain ⟨e4, hel⟩ := hT
  obtain ⟨hn0, hn40, hrg⟩ := hR
  have hD0 := hD
  obtain ⟨hcv2, hT2, hR2, -, -, -, -⟩ := hD
  obtain ⟨hobc2, hform2, -, -, -, ⟨d0, -, -, -⟩, -, -, -, -⟩ := hcv2
  have hform20 := hform2
  obtain ⟨hob2, ⟨-, -, gr3⟩, -, -, gf3⟩ := hform2
  have hT20 := hT2
  obtain ⟨-, hel2⟩ := hT2
  have hR20 := hR2
  obtain ⟨hn20, hn240, hrg2⟩ := hR2
  have key : ∀ t : Int, t ≤ n → 0 ≤ t → ∀ x : Option PV, (∀ v, x ≠ some (pL v)) → srch (fun t => decide (stdB n ne I J V fo la n2 ne2 I2 J2 V2 fo2 la2 t)) (n - t).toNat t = srch (fun t => decide (stdB n ne I J V fo la n2 ne2 I2 J2 V2 fo2 la2 t)) n.toNat 0 → Run X (d + 1) c_Curve_standsIn 2 [some (pR (h + 4)), some (pR (h2 + 4)), some (pI t), x] [] S zI zL 0 0 Q := by
    refine loop_up _ n (fun t ht ih h0 x hx hs => ?_)
    have hib := idlC_b n ne fo la t
    have hfb := fnd_b n2 I2 J2 (I t) (J t) hn20
    have hib2 := idlC_b n2 ne2 fo2 la2 (fnd n2 I2 J2 (I t) (J t))
    refine r_iload_n rfl rfl ?_
    refine r_aload_n rfl rfl ?_
    refine r_getR rfl (by assumption) (by assumption) ?_
    refine r_getI rfl (by assumption) ?_
    rw [e4]
    refine r_icmp_ge rfl (by unfold inI; omega) (by unfold inI; omega) (fun h6 => ?_) (fun h6 => ?_)
    · skip
      refine r_iconst rfl ?_
      refine r_zret rfl (by first | exact Or.inl rfl | exact Or.inr rfl) ?_
      rw [srch_end (by omega)] at hs; unfold stdS at hQ; rw [if_pos hs.symm] at hQ; exact hQ
    · skip
      have gt := hel t h0 (by omega)
      have rt := hrg t h0 (by omega)
      refine r_aload_n rfl rfl ?_
      refine r_iload_n rfl rfl ?_
      refine r_cV2 rfl hobc (Nat.le_of_ble_eq_true rfl) rfl rfl (w_isIdle hC0 ⟨h0, by omega⟩ ?_)
      refine r_if_ne rfl (by unfold inI; omega) (fun h10 => ?_) (fun h10 => ?_)
      · skip
        refine r_iinc rfl rfl ?_
        refine r_goto rfl ?_
        exact ih (by omega) (by omega) _ hx (by rw [← srch_miss (by omega) (decide_eq_false (by exact fun q => by omega))]; exact hs)
      · skip
        refine r_aload_n rfl rfl ?_
        refine r_getR rfl (by assumption) (by assumption) ?_
        refine r_aload_n rfl rfl ?_
        refine r_getR rfl (by assumption) (by assumption) ?_
        refine r_getR rfl (by assumption) (by assumption) ?_
        refine r_iload_n rfl rfl ?_
        refine r_iald rfl (by assumption) (by omega) (by omega) ?_
        rw [gt.1]
        refine r_aload_n rfl rfl ?_
        refine r_getR rfl (by assumption) (by assumption) ?_
        refine r_getR rfl (by assumption) (by assumption) ?_
        refine r_iload_n rfl rfl ?_
        refine r_iald rfl (by assumption) (by omega) (by omega) ?_
        rw [gt.2.1]
        refine r_cV3 rfl hob2 (Nat.le_of_ble_eq_true rfl) rfl rfl (w_find hform20 hT20 hR20 (by unfold inI; omega) (by unfold inI; omega) ?_)
        refine r_istore_n rfl (Nat.le_of_ble_eq_true rfl) ?_
        refine r_iload_n rfl rfl ?_
        refine r_iconst rfl ?_
        refine r_icmp_eq rfl (by unfold inI; omega) (by unfold inI; omega) (fun h27 => ?_) (fun h27 => ?_)
        · skip
          refine r_iconst rfl ?_
          refine r_zret rfl (by first | exact Or.inl rfl | exact Or.inr rfl) ?_
          rw [srch_hit (by omega) (decide_eq_true (by exact ⟨by omega, fun q => by omega⟩))] at hs; unfold stdS at hQ; rw [if_neg (by omega)] at hQ; exact hQ
        · skip
          have gt2 := hel2 (fnd n2 I2 J2 (I t) (J t)) (by omega) (by omega)
          have rt2 := hrg2 (fnd n2 I2 J2 (I t) (J t)) (by omega) (by omega)
          refine r_aload_n rfl rfl ?_
          refine r_getR rfl (by assumption) (by assumption) ?_
          refine r_getR rfl (by assumption) (by assumption) ?_
          refine r_iload_n rfl rfl ?_
          refine r_iald rfl (by assumption) (by omega) (by omega) ?_
          rw [gt2.2.2]
          refine r_aload_n rfl rfl ?_
          refine r_getR rfl (by assumption) (by assumption) ?_
          refine r_getR rfl (by assumption) (by assumption) ?_
          refine r_iload_n rfl rfl ?_
          refine r_iald rfl (by assumption) (by omega) (by omega) ?_
          rw [gt.2.2]
          refine r_icmp_ne rfl (by unfold inI; omega) (by unfold inI; omega) (fun h38 => ?_) (fun h38 => ?_)
          · skip
            refine r_iconst rfl ?_
            refine r_zret rfl (by first | exact Or.inl rfl | exact Or.inr rfl) ?_
            rw [srch_hit (by omega) (decide_eq_true (by exact ⟨by omega, fun q => by omega⟩))] at hs; unfold stdS at hQ; rw [if_neg (by omega)] at hQ; exact hQ
          · skip
            refine r_aload_n rfl rfl ?_
            refine r_iload_n rfl rfl ?_
            refine r_cV2 rfl hobc2 (Nat.le_of_ble_eq_true rfl) rfl rfl (w_isIdle hD0 ⟨by omega, by omega⟩ ?_)
            refine r_if_eq rfl (by unfold inI; omega) (fun h42 => ?_) (fun h42 => ?_)
            · skip
              refine r_iinc rfl rfl ?_
              refine r_goto rfl ?_
              exact ih (by omega) (by omega) _ (fun v q => by cases q) (by rw [← srch_miss (by omega) (decide_eq_false (by exact fun q => q.2 ⟨by omega, by omega, by omega⟩))]; exact hs)
            · skip
              refine r_iconst rfl ?_
              refine r_zret rfl (by first | exact Or.inl rfl | exact Or.inr rfl) ?_
              rw [srch_hit (by omega) (decide_eq_true (by exact ⟨by omega, fun q => by omega⟩))] at hs; unfold stdS at hQ; rw [if_neg (by omega)] at hQ; exact hQ
  refine wp_in (C := c_Curve_standsIn) (ls := [some (pR (h + 4)), some (pR (h2 + 4)), none, none]) rfl rfl rfl rfl rfl ?_
  refine r_iconst rfl ?_
  refine r_istore_n rfl (Nat.le_of_ble_eq_true rfl) ?_
  exact key 0 hn0 (Int.le_refl _) none (fun v q => by cases q) (by rw [Int.sub_zero])
theorem w_raiseLow {X : PX} {d : Nat} {S : SS} {zI zL : ZM} {Q : PQ} {h : Nat} (hcv : isCurve S h) {u v : Int} (hu : -200000 ≤ u ∧ u ≤ 200000) (hv : 1 ≤ v ∧ v ≤ 128) (hb : (-200000 ≤ zL (h + 4) 9 ∧ zL (h + 4) 9 ≤ 200000) ∧ (1 ≤ zL (h + 4) 10 ∧ zL (h + 4) 10 ≤ 128) ∨ zL (h + 4) 10 = 0) (hQ1 : zL (h + 4) 10 = 0 ∨ zL (h + 4) 9 * v < u * zL (h + 4) 10 → Q none S zI (zput (zput zL (h + 4) 9 u) (h + 4) 10 v)) (hQ0 : zL (h + 4) 10 ≠ 0 → ¬ zL (h + 4) 9 * v < u * zL (h + 4) 10 → Q none S zI zL) : wpM X (d + 1) fCurve_raiseLow [pR (h + 4), pL u, pL v] S zI zL Q := by
  obtain ⟨hobc, -⟩ := hcv
  have l0 : inL 0 := by unfold inL; omega
  refine wp_in (C := c_Curve_raiseLow) (ls := [some (pR (h + 4)), some (pL u), none, some (pL v), none]) rfl rfl rfl rfl rfl ?_
  refine r_aload_n rfl rfl ?_
  refine r_getL rfl (by assumption) ?_
  refine r_lconst rfl ?_
  refine r_l_eq rfl rfl (by unfold inL; omega) l0 (fun h4 => ?_) (fun h4 => ?_)
  · skip
    refine r_aload_n rfl rfl ?_
    refine r_lload_n rfl rfl ?_
    refine r_putL rfl (by assumption) ?_
    refine r_aload_n rfl rfl ?_
    refine r_lload_n rfl rfl ?_
    refine r_putL rfl (by assumption) ?_
    refine r_ret rfl ?_
    exact hQ1 (Or.inl h4)
  · skip
    have m1 := mb (a := u) (b := zL (h + 4) 10) (A := 200000) (B := 128) hu.1 hu.2 (by omega) (by omega)
    have m2 := mb (a := zL (h + 4) 9) (b := v) (A := 200000) (B := 128) (by omega) (by omega) (by omega) hv.2
    refine r_lload_n rfl rfl ?_
    refine r_aload_n rfl rfl ?_
    refine r_getL rfl (by assumption) ?_
    refine r_lmul rfl ?_
    refine r_aload_n rfl rfl ?_
    refine r_getL rfl (by assumption) ?_
    refine r_lload_n rfl rfl ?_
    refine r_lmul rfl ?_
    refine r_l_le rfl rfl (by unfold inL; omega) (by unfold inL; omega) (fun h14 => ?_) (fun h14 => ?_)
    · skip
      refine r_ret rfl ?_
      exact hQ0 h4 (by omega)
    · skip
      refine r_aload_n rfl rfl ?_
      refine r_lload_n rfl rfl ?_
      refine r_putL rfl (by assumption) ?_
      refine r_aload_n rfl rfl ?_
      refine r_lload_n rfl rfl ?_
      refine r_putL rfl (by assumption) ?_
      refine r_ret rfl ?_
      exact hQ1 (Or.inr (by omega))
theorem w_bringDownHigh {X : PX} {d : Nat} {S : SS} {zI zL : ZM} {Q : PQ} {h : Nat} (hcv : isCurve S h) {u v : Int} (hu : -200000 ≤ u ∧ u ≤ 200000) (hv : 1 ≤ v ∧ v ≤ 128) (hb : (-200000 ≤ zL (h + 4) 11 ∧ zL (h + 4) 11 ≤ 200000) ∧ (1 ≤ zL (h + 4) 12 ∧ zL (h + 4) 12 ≤ 128) ∨ zL (h + 4) 12 = 0) (hQ1 : zL (h + 4) 12 = 0 ∨ u * zL (h + 4) 12 < zL (h + 4) 11 * v → Q none S zI (zput (zput zL (h + 4) 11 u) (h + 4) 12 v)) (hQ0 : zL (h + 4) 12 ≠ 0 → ¬ u * zL (h + 4) 12 < zL (h + 4) 11 * v → Q none S zI zL) : wpM X (d + 1) fCurve_bringDownHigh [pR (h + 4), pL u, pL v] S zI zL Q := by
  obtain ⟨hobc, -⟩ := hcv
  have l0 : inL 0 := by unfold inL; omega
  refine wp_in (C := c_Curve_bringDownHigh) (ls := [some (pR (h + 4)), some (pL u), none, some (pL v), none]) rfl rfl rfl rfl rfl ?_
  refine r_aload_n rfl rfl ?_
  refine r_getL rfl (by assumption) ?_
  refine r_lconst rfl ?_
  refine r_l_eq rfl rfl (by unfold inL; omega) l0 (fun h4 => ?_) (fun h4 => ?_)
  · skip
    refine r_aload_n rfl rfl ?_
    refine r_lload_n rfl rfl ?_
    refine r_putL rfl (by assumption) ?_
    refine r_aload_n rfl rfl ?_
    refine r_lload_n rfl rfl ?_
    refine r_putL rfl (by assumption) ?_
    refine r_ret rfl ?_
    exact hQ1 (Or.inl h4)
  · skip
    have m1 := mb (a := u) (b := zL (h + 4) 12) (A := 200000) (B := 128) hu.1 hu.2 (by omega) (by omega)
    have m2 := mb (a := zL (h + 4) 11) (b := v) (A := 200000) (B := 128) (by omega) (by omega) (by omega) hv.2
    refine r_lload_n rfl rfl ?_
    refine r_aload_n rfl rfl ?_
    refine r_getL rfl (by assumption) ?_
    refine r_lmul rfl ?_
    refine r_aload_n rfl rfl ?_
    refine r_getL rfl (by assumption) ?_
    refine r_lload_n rfl rfl ?_
    refine r_lmul rfl ?_
    refine r_l_ge rfl rfl (by unfold inL; omega) (by unfold inL; omega) (fun h14 => ?_) (fun h14 => ?_)
    · skip
      refine r_ret rfl ?_
      exact hQ0 h4 (by omega)
    · skip
      refine r_aload_n rfl rfl ?_
      refine r_lload_n rfl rfl ?_
      refine r_putL rfl (by assumption) ?_
      refine r_aload_n rfl rfl ?_
      refine r_lload_n rfl rfl ?_
      refine r_putL rfl (by assumption) ?_
      refine r_ret rfl ?_
      exact hQ1 (Or.inr (by omega))
