/-! CURVES: the areas, what is told, what stands in another -/
theorem CvH_fr {S : SS} {zI zL zI' zL' : ZM} {h : Nat} {n : Int} {I J V : Int → Int} {ne : Int} {fo la fi ls : Int → Int} {m : Int} {X0 XD Y YD : Int → Int} (hC : CvH S zI zL h n I J V ne fo la fi ls m X0 XD Y YD) (hI : ∀ c, h ≤ c → c ≤ h + 14 → zI' c = zI c) (hL : ∀ c, h + 7 ≤ c → c ≤ h + 10 → zL' c = zL c) : CvH S zI' zL' h n I J V ne fo la fi ls m X0 XD Y YD := by
  unfold CvH FH PsH at *
  rw [hI h (by omega) (by omega), hI (h + 1) (by omega) (by omega), hI (h + 2) (by omega) (by omega), hI (h + 3) (by omega) (by omega), hI (h + 4) (by omega) (by omega), hI (h + 6) (by omega) (by omega), hI (h + 11) (by omega) (by omega), hI (h + 12) (by omega) (by omega), hI (h + 13) (by omega) (by omega), hI (h + 14) (by omega) (by omega), hL (h + 6 + 1) (by omega) (by omega), hL (h + 6 + 2) (by omega) (by omega), hL (h + 6 + 3) (by omega) (by omega), hL (h + 6 + 4) (by omega) (by omega)]
  exact hC
theorem FH_fr {zI zI' : ZM} {h : Nat} {n : Int} {I J V : Int → Int} (hT : FH zI h n I J V) (hI : ∀ c, h ≤ c → c ≤ h + 3 → zI' c = zI c) : FH zI' h n I J V := by
  unfold FH at *
  rw [hI h (by omega) (by omega), hI (h + 1) (by omega) (by omega), hI (h + 2) (by omega) (by omega), hI (h + 3) (by omega) (by omega)]
  exact hT
/-- the places that are taken, and their ring -/
def selW (p : Int → Bool) (I J : Int → Int) : Nat → Int → Int × (Int → Int) × (Int → Int) → Int × (Int → Int) × (Int → Int)
  | 0, _, s => s
  | k + 1, t, s => selW p I J k (t + 1) (if p t = true then (s.1 + 1, updF s.2.1 s.1 (I t), updF s.2.2 s.1 (J t)) else s)
def selS (p : Int → Bool) (n : Int) (I J : Int → Int) : Int × (Int → Int) × (Int → Int) := selW p I J n.toNat 0 (0, fun _ => 0, fun _ => 0)
def areaS (p : Int → Bool) (n : Int) (I J : Int → Int) : Int := areaR (selS p n I J).1 (selS p n I J).2.1 (selS p n I J).2.2
theorem selW_s {p : Int → Bool} {I J : Int → Int} {n t : Int} {s : Int × (Int → Int) × (Int → Int)} (h : t < n) : selW p I J (n - t).toNat t s = selW p I J (n - (t + 1)).toNat (t + 1) (if p t = true then (s.1 + 1, updF s.2.1 s.1 (I t), updF s.2.2 s.1 (J t)) else s) := by
  rw [show (n - t).toNat = (n - (t + 1)).toNat + 1 by omega]; rfl
theorem selW_e {p : Int → Bool} {I J : Int → Int} {n t : Int} {s : Int × (Int → Int) × (Int → Int)} (h : n ≤ t) : selW p I J (n - t).toNat t s = s := by rw [show (n - t).toNat = 0 by omega]; rfl
def rgI (m : Int) (A B : Int → Int) : Prop := ∀ t, 0 ≤ t → t < m → 0 ≤ A t ∧ A t ≤ 8 ∧ 0 ≤ B t ∧ B t ≤ 8
theorem rgI_up {m a b : Int} {A B : Int → Int} (h : rgI m A B) (ha : 0 ≤ a ∧ a ≤ 8) (hb : 0 ≤ b ∧ b ≤ 8) : rgI (m + 1) (updF A m a) (updF B m b) := by
  intro t t0 t1
  unfold updF
  by_cases e : t = m
  · rw [if_pos e, if_pos e]; omega
  · rw [if_neg e, if_neg e]; exact h t t0 (by omega)
theorem w_countLeastAt {X : PX} {d : Nat} {S : SS} {zI zL : ZM} {Q : PQ} {h : Nat} {n : Int} {I J V : Int → Int} {ne : Int} {fo la fi ls : Int → Int} {m : Int} {X0 XD Y YD : Int → Int} (hC : CvH S zI zL h n I J V ne fo la fi ls m X0 XD Y YD) {k : Int} (hk : 0 ≤ k ∧ k < m) (hQ : ∀ z, (∀ c, c ≠ h + 5 → z c = zL c) → Q (some (pI (countS n I J V (X0 k) (XD k) (Y k) (YD k)))) S zI z) : wpM X (d + 5) fCurve_countLeastAt [pR (h + 4), pI k] S zI zL Q := by
  have hC0 := hC
  obtain ⟨hcv, hT, hR, ⟨e8, ⟨hne0, hne1⟩, hed⟩, hP, hPR, hm75⟩ := hC
  obtain ⟨hobc, hform, hpt, hpts, ⟨hr11, hr12, hr13, hr14⟩, ⟨c0, c1, c2, c3⟩, c4, c5, c6, c7⟩ := hcv
  have hform0 := hform
  have hT0 := hT
  have hR0 := hR
  obtain ⟨hob, ⟨hr1, hr2, hr3⟩, hf1, hf2, hf3⟩ := hform
  obtain ⟨e4, hel⟩ := hT
  obtain ⟨hn0, hn40, hrg⟩ := hR
  have hPk := hPR.2 k hk.1 hk.2
  have hph : ∀ z : ZM, PH (zput (zput (zput (zput z (h + 5) 0 (X0 k)) (h + 5) 1 (XD k)) (h + 5) 2 (Y k)) (h + 5) 3 (YD k)) (h + 5) (X0 k) (XD k) (Y k) (YD k) := fun z => by
    unfold PH zput; simp (disch := omega) only [if_pos, if_neg, ↓reduceIte, true_and, and_true, true_or, or_true, and_self]
  refine wp_in (C := c_Curve_countLeastAt) (ls := [some (pR (h + 4)), some (pI k)]) rfl rfl rfl rfl rfl ?_
  refine r_aload_n rfl rfl ?_
  refine r_getR rfl (by assumption) (by assumption) ?_
  refine r_iload_n rfl rfl ?_
  refine r_aload_n rfl rfl ?_
  refine r_getR rfl (by assumption) (by assumption) ?_
  refine r_cV3 rfl hpts.1 (Nat.le_of_ble_eq_true rfl) rfl rfl (w_fetch hpts hP hPR hm75 hpt (Or.inl (by omega)) hk.1 hk.2 ?_)
  refine r_aload_n rfl rfl ?_
  refine r_getR rfl (by assumption) (by assumption) ?_
  refine r_aload_n rfl rfl ?_
  refine r_getR rfl (by assumption) (by assumption) ?_
  refine r_cV2 rfl hob (Nat.le_of_ble_eq_true rfl) rfl rfl (w_countLeast hform0 hT0 hR0 hpt (hph zL) hPk ?_)
  refine r_iret rfl ?_
  exact hQ _ (fun c hc => by simp only [zput_row hc])
set_option maxHeartbeats 4000000 in
theorem w_areaAt {X : PX} {d : Nat} {S : SS} {zI zL : ZM} {Q : PQ} {h : Nat} {n : Int} {I J V : Int → Int} {ne : Int} {fo la fi ls : Int → Int} {m : Int} {X0 XD Y YD : Int → Int} (hC : CvH S zI zL h n I J V ne fo la fi ls m X0 XD Y YD) (h26 : 26 ≤ h) (hrg5 : isRing S 5) {k : Int} (hk : 0 ≤ k ∧ k < m) (hQ : ∀ z z2, (∀ c, c ≠ 5 → c ≠ 6 → c ≠ 7 → c ≠ 8 → z c = zI c) → (∀ c, c ≠ h + 5 → z2 c = zL c) → Q (some (pI (areaS (fun t => decide (wv (I t) (J t) (V t) (X0 k) (XD k) (Y k) (YD k) = leastS n I J V (X0 k) (XD k) (Y k) (YD k))) n I J))) S z z2) : wpM X (d + 4) fCurve_areaAt [pR (h + 4), pI k] S zI zL Q := by
  have hC0 := hC
  obtain ⟨hcv, hT, hR, ⟨e8, ⟨hne0, hne1⟩, hed⟩, hP, hPR, hm75⟩ := hC
  obtain ⟨hobc, hform, hpt, hpts, ⟨hr11, hr12, hr13, hr14⟩, ⟨c0, c1, c2, c3⟩, c4, c5, c6, c7⟩ := hcv
  have hform0 := hform
  have hT0 := hT
  have hR0 := hR
  obtain ⟨hob, ⟨hr1, hr2, hr3⟩, hf1, hf2, hf3⟩ := hform
  obtain ⟨e4, hel⟩ := hT
  obtain ⟨hn0, hn40, hrg⟩ := hR
  have hPk := hPR.2 k hk.1 hk.2
  have hlb := leastS_b (I := I) (J := J) (V := V) hR0 hPk
  have hring := hrg5.1
  have hrn : ∃ zn : ZM, zn = zput (zput (zput (zput zL (h + 5) 0 (X0 k)) (h + 5) 1 (XD k)) (h + 5) 2 (Y k)) (h + 5) 3 (YD k) := ⟨_, rfl⟩
  obtain ⟨zn, hzn⟩ := hrn
  have hph : PH zn (h + 5) (X0 k) (XD k) (Y k) (YD k) := by
    rw [hzn]; unfold PH zput; simp (disch := omega) only [if_pos, if_neg, ↓reduceIte, true_and, and_true, true_or, or_true, and_self]
  have hznr : ∀ c, c ≠ h + 5 → zn c = zL c := fun c hc => by rw [hzn]; simp only [zput_row hc]
  have key : ∀ t : Int, t ≤ n → 0 ≤ t → ∀ (z : ZM) (s : Int × (Int → Int) × (Int → Int)), (∀ c, c ≠ 5 → c ≠ 6 → c ≠ 7 → c ≠ 8 → z c = zI c) → RGH z 5 s.1 s.2.1 s.2.2 → 0 ≤ s.1 → s.1 ≤ t → rgI s.1 s.2.1 s.2.2 → selW (fun t => decide (wv (I t) (J t) (V t) (X0 k) (XD k) (Y k) (YD k) = leastS n I J V (X0 k) (XD k) (Y k) (YD k))) I J (n - t).toNat t s = selS (fun t => decide (wv (I t) (J t) (V t) (X0 k) (XD k) (Y k) (YD k) = leastS n I J V (X0 k) (XD k) (Y k) (YD k))) n I J → Run X (d + 3) c_Curve_areaAt 17 [some (pR (h + 4)), some (pI k), some (pL (leastS n I J V (X0 k) (XD k) (Y k) (YD k))), none, some (pI t)] [] S z zn 0 0 Q := by
    refine loop_up _ n (fun t ht ih h0 z s hz hrh hs0 hst hsr hs => ?_)
    obtain ⟨s1, sA, sB⟩ := s
    have hzT : FH z h n I J V := FH_fr hT0 (fun c c0 c1 => hz c (by omega) (by omega) (by omega) (by omega))
    have hzT0 := hzT
    obtain ⟨g4, hgl⟩ := hzT
    have hrw := hrh
    refine r_iload rfl rfl ?_
    refine r_aload_n rfl rfl ?_
    refine r_getR rfl (by assumption) (by assumption) ?_
    refine r_getI rfl (by assumption) ?_
    rw [g4]
    refine r_icmp_ge rfl (by unfold inI; omega) (by unfold inI; omega) (fun h21 => ?_) (fun h21 => ?_)
    · skip
      refine r_aload_n rfl rfl ?_
      refine r_getR rfl (by assumption) (by assumption) ?_
      refine r_cV1 rfl hring (Nat.le_of_ble_eq_true rfl) rfl rfl (w_rarea hrg5 hrh ⟨hs0, by have : s1 ≤ t := hst; omega, hsr⟩ (fun z3 hz3 => ?_))
      refine r_iret rfl ?_
      rw [selW_e (by omega)] at hs
      unfold areaS at hQ
      rw [← hs] at hQ
      exact hQ _ _ (fun c c5 c6 c7 c8 => (hz3 c c8).trans (hz c c5 c6 c7 c8)) hznr
    · skip
      refine r_aload_n rfl rfl ?_
      refine r_getR rfl (by assumption) (by assumption) ?_
      refine r_iload rfl rfl ?_
      refine r_aload_n rfl rfl ?_
      refine r_getR rfl (by assumption) (by assumption) ?_
      refine r_cV3 rfl hob (Nat.le_of_ble_eq_true rfl) rfl rfl (w_worthOf hform0 hzT0 hR0 hpt hph h0 (by omega) ?_)
      refine r_lload_n rfl rfl ?_
      have gt := hgl t h0 (by omega)
      have rt := hrg t h0 (by omega)
      have hwb := wv_b (i := I t) (j := J t) (v := V t) ⟨rt.1, rt.2.1⟩ ⟨rt.2.2.1, rt.2.2.2.1⟩ ⟨rt.2.2.2.2.1, rt.2.2.2.2.2⟩ hPk
      refine r_l_ne rfl rfl (by unfold inL; omega) (by unfold inL; omega) (fun h30 => ?_) (fun h30 => ?_)
      · skip
        refine r_iinc rfl rfl ?_
        refine r_goto rfl ?_
        exact ih (by omega) (by omega) z (s1, sA, sB) hz hrh hs0 (by have : s1 ≤ t := hst; show s1 ≤ t + 1; omega) hsr (by rw [selW_s (by omega), if_neg (by simp only [decide_eq_true_eq]; exact h30)] at hs; exact hs)
      · skip
        refine r_aload_n rfl rfl ?_
        refine r_getR rfl (by assumption) (by assumption) ?_
        refine r_aload_n rfl rfl ?_
        refine r_getR rfl (by assumption) (by assumption) ?_
        refine r_getR rfl (by assumption) (by assumption) ?_
        refine r_iload rfl rfl ?_
        refine r_iald rfl (by assumption) (by omega) (by omega) ?_
        rw [gt.1]
        refine r_aload_n rfl rfl ?_
        refine r_getR rfl (by assumption) (by assumption) ?_
        refine r_getR rfl (by assumption) (by assumption) ?_
        refine r_iload rfl rfl ?_
        refine r_iald rfl (by assumption) (by omega) (by omega) ?_
        rw [gt.2.1]
        refine r_cV3 rfl hring (Nat.le_of_ble_eq_true rfl) rfl rfl (w_radd hrg5 hrh hs0 (by have : s1 ≤ t := hst; omega) (fun z3 hz3 => ?_))
        refine r_iinc rfl rfl ?_
        refine r_goto rfl ?_
        exact ih (by omega) (by omega) z3 (s1 + 1, updF sA s1 (I t), updF sB s1 (J t)) (fun c c5 c6 c7 c8 => (hz3.1 c c5 c6 c7).trans (hz c c5 c6 c7 c8)) hz3.2 (by have : 0 ≤ s1 := hs0; show 0 ≤ s1 + 1; omega) (by have : s1 ≤ t := hst; show s1 + 1 ≤ t + 1; omega) (rgI_up hsr (by omega) (by omega)) (by rw [selW_s (by omega), if_pos (by simp only [decide_eq_true_eq]; exact h30)] at hs; exact hs)
  refine wp_in (C := c_Curve_areaAt) (ls := [some (pR (h + 4)), some (pI k), none, none, none]) rfl rfl rfl rfl rfl ?_
  refine r_aload_n rfl rfl ?_
  refine r_getR rfl (by assumption) (by assumption) ?_
  refine r_iload_n rfl rfl ?_
  refine r_aload_n rfl rfl ?_
  refine r_getR rfl (by assumption) (by assumption) ?_
  refine r_cV3 rfl hpts.1 (Nat.le_of_ble_eq_true rfl) rfl rfl (w_fetch hpts hP hPR hm75 hpt (Or.inl (by omega)) hk.1 hk.2 ?_)
  rw [← hzn]
  refine r_aload_n rfl rfl ?_
  refine r_getR rfl (by assumption) (by assumption) ?_
  refine r_aload_n rfl rfl ?_
  refine r_getR rfl (by assumption) (by assumption) ?_
  refine r_cV2 rfl hob (Nat.le_of_ble_eq_true rfl) rfl rfl (w_leastWorth hform0 hT0 hR0 hpt hph hPk ?_)
  refine r_lstore_n rfl (Nat.le_of_ble_eq_true rfl) ?_
  refine r_aload_n rfl rfl ?_
  refine r_getR rfl (by assumption) (by assumption) ?_
  refine r_cV1 rfl hring (Nat.le_of_ble_eq_true rfl) rfl rfl (w_rclear hrg5 ?_)
  refine r_iconst rfl ?_
  refine r_istore rfl (Nat.le_of_ble_eq_true rfl) ?_
  exact key 0 hn0 (Int.le_refl _) _ (0, fun _ => 0, fun _ => 0) (fun c c5 c6 c7 c8 => zput_row c5) ⟨zput_at, fun t t0 t1 => absurd t1 (by omega)⟩ (Int.le_refl _) (Int.le_refl _) (fun t t0 t1 => absurd t1 (by show ¬ t < 0; omega)) (by rw [Int.sub_zero]; rfl)
