/-! CURVES: smoothness, the proof's numbers, standing in another -/
theorem chW_in {s : Int} {I J : Int → Int} : ∀ (f : Nat) (k : Int) (l : List Int), 0 ≤ k → (∀ x ∈ l, 0 ≤ x ∧ x < k) → (l.length : Int) ≤ k → (∀ x ∈ chW s I J f k l, 0 ≤ x ∧ x < k + f) ∧ ((chW s I J f k l).length : Int) ≤ k + f
  | 0, k, l, _, h, hl => ⟨fun x hx => by have := h x hx; omega, by show (l.length : Int) ≤ _; omega⟩
  | f + 1, k, l, hk, h, hl => by
    have ih := chW_in (s := s) (I := I) (J := J) f (k + 1) (k :: popW s I J k l) (by omega) (fun x hx => by
      rcases List.mem_cons.mp hx with e | e
      · omega
      · have := h x (popW_in e); omega) (by have := popW_len (s := s) (I := I) (J := J) (k := k) (l := l); simp only [List.length_cons]; omega)
    refine ⟨fun x hx => ?_, ?_⟩
    · have := ih.1 x hx; omega
    · have := ih.2; show ((chW s I J f (k + 1) (k :: popW s I J k l)).length : Int) ≤ _; omega
theorem areaR_b {m : Int} {I J : Int → Int} (hR : RGR m I J) : -20000 ≤ areaR m I J ∧ areaR m I J ≤ 20000 := by
  obtain ⟨a1, a2⟩ := chW_in (s := 1) (I := I) (J := J) m.toNat 0 [] (Int.le_refl _) (fun x hx => by cases hx) (Int.le_refl _)
  obtain ⟨b1, b2⟩ := chW_in (s := -1) (I := I) (J := J) m.toNat 0 [] (Int.le_refl _) (fun x hx => by cases hx) (Int.le_refl _)
  have hm0 := hR.1
  have hm1 := hR.2.1
  have c1 := arS_b hR (chn 1 m I J) (fun x hx => by have := a1 x hx; omega)
  have c2 := arS_b hR (chn (-1) m I J) (fun x hx => by have := b1 x hx; omega)
  unfold chn at c1 c2
  unfold areaR chn
  omega
theorem selW_in {p : Int → Bool} {n : Int} {I J : Int → Int} (hr : rgI n I J) : ∀ (f : Nat) (t : Int) (s : Int × (Int → Int) × (Int → Int)), 0 ≤ t → t + f ≤ n → 0 ≤ s.1 → s.1 ≤ t → rgI s.1 s.2.1 s.2.2 → (0 ≤ (selW p I J f t s).1 ∧ (selW p I J f t s).1 ≤ t + f) ∧ rgI (selW p I J f t s).1 (selW p I J f t s).2.1 (selW p I J f t s).2.2
  | 0, t, s, _, _, h0, h1, h => ⟨⟨h0, by show s.1 ≤ _; omega⟩, h⟩
  | f + 1, t, s, ht, htn, h0, h1, h => by
    have hrt := hr t ht (by omega)
    unfold selW
    split
    · have ih := selW_in (p := p) hr f (t + 1) (s.1 + 1, updF s.2.1 s.1 (I t), updF s.2.2 s.1 (J t)) (by omega) (by omega) (by show 0 ≤ s.1 + 1; omega) (by show s.1 + 1 ≤ t + 1; omega) (rgI_up h (by omega) (by omega))
      exact ⟨⟨ih.1.1, by have := ih.1.2; omega⟩, ih.2⟩
    · have ih := selW_in (p := p) hr f (t + 1) s (by omega) (by omega) h0 (by omega) h
      exact ⟨⟨ih.1.1, by have := ih.1.2; omega⟩, ih.2⟩
theorem areaS_b {p : Int → Bool} {n : Int} {I J V : Int → Int} (hR : FR n I J V) : -20000 ≤ areaS p n I J ∧ areaS p n I J ≤ 20000 := by
  obtain ⟨hn0, hn40, hrg⟩ := hR
  obtain ⟨⟨a0, a1⟩, a2⟩ := selW_in (p := p) (n := n) (I := I) (J := J) (fun t t0 t1 => by have := hrg t t0 t1; omega) n.toNat 0 (0, fun _ => 0, fun _ => 0) (Int.le_refl _) (by omega) (Int.le_refl _) (Int.le_refl _) (fun t t0 t1 => absurd t1 (by show ¬ t < 0; omega))
  exact areaR_b ⟨a0, by unfold selS; omega, a2⟩
def areaC (n : Int) (I J V : Int → Int) (x xd y yd : Int) : Int := areaS (fun t => decide (wv (I t) (J t) (V t) x xd y yd = leastS n I J V x xd y yd)) n I J
def wgt (I J fo la : Int → Int) (e : Int) : Int := gc (I (la e) - I (fo e)) (J (la e) - J (fo e))
def smoS (n : Int) (I J V : Int → Int) (ne : Int) (fo la : Int → Int) (m : Int) (X XD Y YD : Int → Int) : Int := if srch (fun e => decide (wgt I J fo la e ≠ 1)) ne.toNat 0 = -1 ∧ srch (fun k => decide (areaC n I J V (X k) (XD k) (Y k) (YD k) ≠ 1)) m.toNat 0 = -1 then 1 else 0
set_option maxHeartbeats 4000000 in
theorem w_isSmooth {X : PX} {d : Nat} {S : SS} {zI zL : ZM} {Q : PQ} {h : Nat} {n : Int} {I J V : Int → Int} {ne : Int} {fo la fi ls : Int → Int} {m : Int} {X0 XD Y YD : Int → Int} (hC : CvH S zI zL h n I J V ne fo la fi ls m X0 XD Y YD) (h26 : 26 ≤ h) (hrg5 : isRing S 5) (hQ : ∀ z z2, (∀ c, c ≠ 5 → c ≠ 6 → c ≠ 7 → c ≠ 8 → z c = zI c) → (∀ c, c ≠ h + 5 → z2 c = zL c) → Q (some (pI (smoS n I J V ne fo la m X0 XD Y YD))) S z z2) : wpM X (d + 5) fCurve_isSmooth [pR (h + 4)] S zI zL Q := by
  have hC0 := hC
  obtain ⟨hcv, hT, hR, ⟨e8, ⟨hne0, hne1⟩, hed⟩, hP, hPR, hm75⟩ := hC
  obtain ⟨hobc, hform, hpt, hpts, ⟨hr11, hr12, hr13, hr14⟩, ⟨c0, c1, c2, c3⟩, c4, c5, c6, c7⟩ := hcv
  have hform0 := hform
  have hT0 := hT
  have hR0 := hR
  obtain ⟨hob, ⟨hr1, hr2, hr3⟩, hf1, hf2, hf3⟩ := hform
  obtain ⟨e4, hel⟩ := hT
  obtain ⟨hn0, hn40, hrg⟩ := hR
  have hob6 := hpts.1
  have hm0 := hPR.1
  have loop2 : srch (fun e => decide (wgt I J fo la e ≠ 1)) ne.toNat 0 = -1 → ∀ k : Int, k ≤ m → 0 ≤ k → ∀ z z2 : ZM, (∀ c, c ≠ 5 → c ≠ 6 → c ≠ 7 → c ≠ 8 → z c = zI c) → (∀ c, c ≠ h + 5 → z2 c = zL c) → srch (fun k => decide (areaC n I J V (X0 k) (XD k) (Y k) (YD k) ≠ 1)) (m - k).toNat k = srch (fun k => decide (areaC n I J V (X0 k) (XD k) (Y k) (YD k) ≠ 1)) m.toNat 0 → Run X (d + 4) c_Curve_isSmooth 17 [some (pR (h + 4)), some (pI k)] [] S z z2 0 0 Q := by
    intro hws
    refine loop_up _ m (fun k hk ih h0 z z2 hz hz2 hs => ?_)
    have hC2 := CvH_fr hC0 (zI' := z) (zL' := z2) (fun c c0 c1 => hz c (by omega) (by omega) (by omega) (by omega)) (fun c c0 c1 => hz2 c (by omega))
    have e5 : z (h + 6) 5 = m := hC2.2.2.2.2.1.1
    have hab : -20000 ≤ areaC n I J V (X0 k) (XD k) (Y k) (YD k) ∧ areaC n I J V (X0 k) (XD k) (Y k) (YD k) ≤ 20000 := areaS_b hR0
    refine r_iload_n rfl rfl ?_
    refine r_aload_n rfl rfl ?_
    refine r_getR rfl (by assumption) (by assumption) ?_
    refine r_getI rfl hob6 ?_
    rw [e5]
    refine r_icmp_ge rfl (by unfold inI; omega) (by unfold inI; omega) (fun h21 => ?_) (fun h21 => ?_)
    · skip
      refine r_iconst rfl ?_
      refine r_zret rfl (by first | exact Or.inl rfl | exact Or.inr rfl) ?_
      rw [srch_end (by omega)] at hs; unfold smoS at hQ; rw [if_pos ⟨hws, hs.symm⟩] at hQ; exact hQ _ _ hz hz2
    · skip
      refine r_aload_n rfl rfl ?_
      refine r_iload_n rfl rfl ?_
      refine r_cV2 rfl hobc (Nat.le_of_ble_eq_true rfl) rfl rfl (w_areaAt hC2 h26 hrg5 ⟨h0, by omega⟩ (fun z3 z4 hz3 hz4 => ?_))
      refine r_iconst rfl ?_
      refine r_icmp_eq rfl (by show inI (areaC n I J V (X0 k) (XD k) (Y k) (YD k)); unfold inI; omega) (by unfold inI; omega) (fun h26a => ?_) (fun h26a => ?_)
      · skip
        refine r_iinc rfl rfl ?_
        refine r_goto rfl ?_
        exact ih (by omega) (by omega) z3 z4 (fun c c5 c6 c7 c8 => (hz3 c c5 c6 c7 c8).trans (hz c c5 c6 c7 c8)) (fun c c5 => (hz4 c c5).trans (hz2 c c5)) (by rw [← srch_miss (by omega) (decide_eq_false (fun q => q h26a))]; exact hs)
      · skip
        refine r_iconst rfl ?_
        refine r_zret rfl (by first | exact Or.inl rfl | exact Or.inr rfl) ?_
        rw [srch_hit (by omega) (by simp only [decide_eq_true_eq]; exact h26a)] at hs; unfold smoS at hQ; rw [if_neg (fun q => by have := q.2; omega)] at hQ; exact hQ _ _ (fun c c5 c6 c7 c8 => (hz3 c c5 c6 c7 c8).trans (hz c c5 c6 c7 c8)) (fun c c5 => (hz4 c c5).trans (hz2 c c5))
  have loop1 : ∀ e : Int, e ≤ ne → 0 ≤ e → srch (fun e => decide (wgt I J fo la e ≠ 1)) (ne - e).toNat e = srch (fun e => decide (wgt I J fo la e ≠ 1)) ne.toNat 0 → Run X (d + 4) c_Curve_isSmooth 2 [some (pR (h + 4)), some (pI e)] [] S zI zL 0 0 Q := by
    refine loop_up _ ne (fun e he ih h0 hs => ?_)
    refine r_iload_n rfl rfl ?_
    refine r_aload_n rfl rfl ?_
    refine r_getI rfl (by assumption) ?_
    rw [e8]
    refine r_icmp_ge rfl (by unfold inI; omega) (by unfold inI; omega) (fun h5 => ?_) (fun h5 => ?_)
    · skip
      refine r_iconst rfl ?_
      refine r_istore_n rfl (Nat.le_of_ble_eq_true rfl) ?_
      rw [srch_end (by omega)] at hs; exact loop2 hs.symm 0 hm0 (Int.le_refl _) zI zL (fun c _ _ _ _ => rfl) (fun c _ => rfl) (by rw [Int.sub_zero])
    · skip
      obtain ⟨⟨q1, q2, q3, q4⟩, q5, q6, q7, q8, q9, q10, q11, q12⟩ := hed e h0 (by omega)
      have hwb := (w_b8 (e := e) hR0 ⟨q5, q6⟩ ⟨q7, q8⟩).1
      have hwb2 : 1 ≤ wgt I J fo la e ∧ wgt I J fo la e ≤ 8 := hwb
      refine r_aload_n rfl rfl ?_
      refine r_iload_n rfl rfl ?_
      refine r_cV2 rfl hobc (Nat.le_of_ble_eq_true rfl) rfl rfl (w_weight hC0 h0 (by omega) ?_)
      refine r_iconst rfl ?_
      refine r_icmp_eq rfl (by show inI (wgt I J fo la e); unfold inI; omega) (by unfold inI; omega) (fun h10 => ?_) (fun h10 => ?_)
      · skip
        refine r_iinc rfl rfl ?_
        refine r_goto rfl ?_
        exact ih (by omega) (by omega) (by rw [← srch_miss (by omega) (by exact decide_eq_false (fun q => q h10))]; exact hs)
      · skip
        refine r_iconst rfl ?_
        refine r_zret rfl (by first | exact Or.inl rfl | exact Or.inr rfl) ?_
        rw [srch_hit (by omega) (by simp only [decide_eq_true_eq]; exact h10)] at hs; unfold smoS at hQ; rw [if_neg (fun q => by have := q.1; omega)] at hQ; exact hQ _ _ (fun c _ _ _ _ => rfl) (fun c _ => rfl)
  refine wp_in (C := c_Curve_isSmooth) (ls := [some (pR (h + 4)), none]) rfl rfl rfl rfl rfl ?_
  refine r_iconst rfl ?_
  refine r_istore_n rfl (Nat.le_of_ble_eq_true rfl) ?_
  exact loop1 0 hne0 (Int.le_refl _) (by rw [Int.sub_zero])
/-- number k of the proof -/
def prfS (I J : Int → Int) (ne : Int) (fo la fi ls : Int → Int) (X XD Y YD : Int → Int) (k : Int) : Int :=
  if ne ≤ k / 4 then prt (X (k / 4 - ne)) (XD (k / 4 - ne)) (Y (k / 4 - ne)) (YD (k / 4 - ne)) (k % 4)
  else if k % 4 = 0 then (-(J (la (k / 4)) - J (fo (k / 4)))).tdiv (wgt I J fo la (k / 4))
  else if k % 4 = 1 then (I (la (k / 4)) - I (fo (k / 4))).tdiv (wgt I J fo la (k / 4))
  else if k % 4 = 2 then wgt I J fo la (k / 4)
  else knd (fi (k / 4)) (ls (k / 4))
theorem td4 {p : Int} (h : 0 ≤ p) : p.tdiv 4 = p / 4 := Int.tdiv_eq_ediv_of_nonneg h
theorem tm4 {p : Int} (h : 0 ≤ p) : p.tmod 4 = p % 4 := Int.tmod_eq_emod_of_nonneg h
theorem tdiv_b {a b : Int} (ha : -8 ≤ a ∧ a ≤ 8) (hb : 1 ≤ b) : -8 ≤ a.tdiv b ∧ a.tdiv b ≤ 8 := by
  have h1 : (a.tdiv b).natAbs ≤ a.natAbs := by rw [Int.natAbs_tdiv]; exact Nat.div_le_self _ _
  omega
theorem w_proofNumber {X : PX} {d : Nat} {S : SS} {zI zL : ZM} {Q : PQ} {h : Nat} {n : Int} {I J V : Int → Int} {ne : Int} {fo la fi ls : Int → Int} {m : Int} {X0 XD Y YD : Int → Int} (hC : CvH S zI zL h n I J V ne fo la fi ls m X0 XD Y YD) {k : Int} (hk : 0 ≤ k ∧ k < 4 * (ne + m)) (hQ : Q (some (pL (prfS I J ne fo la fi ls X0 XD Y YD k))) S zI zL) : wpM X (d + 4) fCurve_proofNumber [pR (h + 4), pI k] S zI zL Q := by
  have hC0 := hC
  obtain ⟨hcv, hT, hR, ⟨e8, ⟨hne0, hne1⟩, hed⟩, hP, hPR, hm75⟩ := hC
  obtain ⟨hobc, hform, hpt, hpts, ⟨hr11, hr12, hr13, hr14⟩, ⟨c0, c1, c2, c3⟩, c4, c5, c6, c7⟩ := hcv
  have hform0 := hform
  have hT0 := hT
  have hR0 := hR
  obtain ⟨hob, ⟨hr1, hr2, hr3⟩, hf1, hf2, hf3⟩ := hform
  obtain ⟨e4, hel⟩ := hT
  obtain ⟨hn0, hn40, hrg⟩ := hR
  have hob6 := hpts.1
  have hm0 := hPR.1
  have hdm : k = 4 * (k / 4) + k % 4 := by omega
  have hm4 : 0 ≤ k % 4 ∧ k % 4 < 4 := by omega
  have l4 : inI 4 := by unfold inI; omega
  refine wp_in (C := c_Curve_proofNumber) (ls := [some (pR (h + 4)), some (pI k), none]) rfl rfl rfl rfl rfl ?_
  refine r_iload_n rfl rfl ?_
  refine r_iconst rfl ?_
  refine r_idiv rfl (by unfold inI; omega) (by unfold inI; omega) (by omega) ?_
  rw [td4 hk.1]
  refine r_istore_n rfl (Nat.le_of_ble_eq_true rfl) ?_
  refine r_iload_n rfl rfl ?_
  refine r_aload_n rfl rfl ?_
  refine r_getI rfl (by assumption) ?_
  rw [e8]
  refine r_icmp_lt rfl (by unfold inI; omega) (by unfold inI; omega) (fun h7 => ?_) (fun h7 => ?_)
  · skip
    refine r_iload_n rfl rfl ?_
    refine r_iconst rfl ?_
    refine r_irem rfl (by unfold inI; omega) (by unfold inI; omega) (by omega) ?_
    rw [tm4 hk.1]
    obtain ⟨⟨q1, q2, q3, q4⟩, q5, q6, q7, q8, q9, q10, q11, q12⟩ := hed (k / 4) (by omega) (by omega)
    have hwb := w_b8 (e := k / 4) hR0 ⟨q5, q6⟩ ⟨q7, q8⟩
    have hx := tdiv_b (a := -(J (la (k / 4)) - J (fo (k / 4)))) (b := wgt I J fo la (k / 4)) (by omega) hwb.1.1
    have hy := tdiv_b (a := (I (la (k / 4)) - I (fo (k / 4)))) (b := wgt I J fo la (k / 4)) (by omega) hwb.1.1
    have hkn := knd_b (fi (k / 4)) (ls (k / 4))
    unfold wgt at hx hy
    unfold prfS wgt at hQ
    rw [if_neg (by omega)] at hQ
    by_cases u0 : k % 4 = 0
    · rw [if_pos u0] at hQ
      refine r_tsw rfl (by unfold inI; omega) (t := 23) (by rw [u0]; rfl) ?_
      refine r_aload_n rfl rfl ?_
      refine r_iload_n rfl rfl ?_
      refine r_cV2 rfl hobc (Nat.le_of_ble_eq_true rfl) rfl rfl (w_directionX hC0 (by omega) (by omega) ?_)
      refine r_i2l rfl (by unfold inI; omega) ?_
      refine r_lret rfl ?_
      exact hQ
    · rw [if_neg u0] at hQ
      by_cases u1 : k % 4 = 1
      · rw [if_pos u1] at hQ
        refine r_tsw rfl (by unfold inI; omega) (t := 28) (by rw [u1]; rfl) ?_
        refine r_aload_n rfl rfl ?_
        refine r_iload_n rfl rfl ?_
        refine r_cV2 rfl hobc (Nat.le_of_ble_eq_true rfl) rfl rfl (w_directionY hC0 (by omega) (by omega) ?_)
        refine r_i2l rfl (by unfold inI; omega) ?_
        refine r_lret rfl ?_
        exact hQ
      · rw [if_neg u1] at hQ
        by_cases u2 : k % 4 = 2
        · rw [if_pos u2] at hQ
          refine r_tsw rfl (by unfold inI; omega) (t := 33) (by rw [u2]; rfl) ?_
          refine r_aload_n rfl rfl ?_
          refine r_iload_n rfl rfl ?_
          refine r_cV2 rfl hobc (Nat.le_of_ble_eq_true rfl) rfl rfl (w_weight hC0 (by omega) (by omega) ?_)
          refine r_i2l rfl (by unfold inI; omega) ?_
          refine r_lret rfl ?_
          exact hQ
        · rw [if_neg u2] at hQ
          refine r_tsw rfl (by unfold inI; omega) (t := 38) (by rw [show k % 4 = 3 by omega]; rfl) ?_
          refine r_aload_n rfl rfl ?_
          refine r_iload_n rfl rfl ?_
          refine r_cV2 rfl hobc (Nat.le_of_ble_eq_true rfl) rfl rfl (w_kindOf hC0 (by omega) (by omega) ?_)
          refine r_i2l rfl (by unfold inI; omega) ?_
          refine r_lret rfl ?_
          exact hQ
  · skip
    refine r_aload_n rfl rfl ?_
    refine r_getR rfl (by assumption) (by assumption) ?_
    refine r_iload_n rfl rfl ?_
    refine r_aload_n rfl rfl ?_
    refine r_getI rfl (by assumption) ?_
    rw [e8]
    refine r_isub rfl ?_
    refine r_iload_n rfl rfl ?_
    refine r_iconst rfl ?_
    refine r_irem rfl (by unfold inI; omega) (by unfold inI; omega) (by omega) ?_
    rw [tm4 hk.1]
    refine r_cV3 rfl hob6 (Nat.le_of_ble_eq_true rfl) rfl rfl (w_part hpts hP hPR hm75 (by unfold inI; omega) (by omega) (by omega) ?_)
    refine r_lret rfl ?_
    unfold prfS at hQ; rw [if_pos (by omega)] at hQ; exact hQ
