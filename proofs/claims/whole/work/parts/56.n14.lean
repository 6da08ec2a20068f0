/-! THE REFERENCE: where two lines meet -/
theorem v_sb {X : PX} {d : Nat} {S : SS} {zI zL : ZM} {Q : PQ} (hS : Sk S) {k j p q r s t u : Int} (i1 : -8 ≤ p ∧ p ≤ 8) (i2 : -8 ≤ q ∧ q ≤ 8) (i3 : -400 ≤ r ∧ r ≤ 400) (i4 : -8 ≤ s ∧ s ≤ 8) (i5 : -8 ≤ t ∧ t ≤ 8) (i6 : -400 ≤ u ∧ u ≤ 400) (hD : p * t - q * s ≠ 0) (hQ : Q none S zI (stM zL (rdA (q * u - r * t) (p * t - q * s)) (rdB (q * u - r * t) (p * t - q * s)) (rdA (r * s - p * u) (p * t - q * s)) (rdB (r * s - p * u) (p * t - q * s)))) : Run X (d + 3) c_M_standAtBoth 102 [some (pR 184), some (pI k), some (pI j), some (pL p), none, some (pL q), none, some (pL r), none, some (pL s), none, some (pL t), none, some (pL u), none, none, none] [] S zI zL 0 0 Q := by
  have m1 := mb i1.1 i1.2 i5.1 i5.2
  have m2 := mb i2.1 i2.2 i4.1 i4.2
  have m3 := mb i2.1 i2.2 i6.1 i6.2
  have m4 := mb i3.1 i3.2 i5.1 i5.2
  have m5 := mb i3.1 i3.2 i4.1 i4.2
  have m6 := mb i1.1 i1.2 i6.1 i6.2
  refine r_lload_n rfl rfl ?_
  refine r_lload rfl rfl ?_
  refine r_lmul rfl ?_
  refine r_lload rfl rfl ?_
  refine r_lload rfl rfl ?_
  refine r_lmul rfl ?_
  refine r_lsub rfl ?_
  refine r_lstore rfl (Nat.le_of_ble_eq_true rfl) ?_
  refine r_aload_n rfl rfl ?_
  refine r_lload rfl rfl ?_
  refine r_lload rfl rfl ?_
  refine r_lmul rfl ?_
  refine r_lload rfl rfl ?_
  refine r_lload rfl rfl ?_
  refine r_lmul rfl ?_
  refine r_lsub rfl ?_
  refine r_lload rfl rfl ?_
  refine r_lload rfl rfl ?_
  refine r_lload rfl rfl ?_
  refine r_lmul rfl ?_
  refine r_lload_n rfl rfl ?_
  refine r_lload rfl rfl ?_
  refine r_lmul rfl ?_
  refine r_lsub rfl ?_
  refine r_lload rfl rfl ?_
  refine r_cV5 rfl (so184 hS) (Nat.le_of_ble_eq_true rfl) rfl rfl (x_standAt hS (by omega) (by omega) hD (by omega) (by omega) hD ?_)
  refine r_ret rfl ?_
  exact hQ
theorem v_ol {X : PX} {d : Nat} {S : SS} {zI zL : ZM} {Q : PQ} (hS : Sk S) {k j p q r s t u : Int} (i1 : -8 ≤ p ∧ p ≤ 8) (i2 : -8 ≤ q ∧ q ≤ 8) (i3 : -400 ≤ r ∧ r ≤ 400) (i4 : -8 ≤ s ∧ s ≤ 8) (i5 : -8 ≤ t ∧ t ≤ 8) (i6 : -400 ≤ u ∧ u ≤ 400) (h1 : p * u = s * r → q * u = t * r → Q (some (pI 1)) S zI zL) (h0 : ¬ (p * u = s * r ∧ q * u = t * r) → Q (some (pI 0)) S zI zL) : Run X d c_M_isOneLine 102 [some (pR 184), some (pI k), some (pI j), some (pL p), none, some (pL q), none, some (pL r), none, some (pL s), none, some (pL t), none, some (pL u), none] [] S zI zL 0 0 Q := by
  have m1 := mb i1.1 i1.2 i6.1 i6.2
  have m2 := mb i4.1 i4.2 i3.1 i3.2
  have m3 := mb i2.1 i2.2 i6.1 i6.2
  have m4 := mb i5.1 i5.2 i3.1 i3.2
  refine r_lload_n rfl rfl ?_
  refine r_lload rfl rfl ?_
  refine r_lmul rfl ?_
  refine r_lload rfl rfl ?_
  refine r_lload rfl rfl ?_
  refine r_lmul rfl ?_
  refine r_l_ne rfl rfl (by unfold inL; omega) (by unfold inL; omega) (fun h109 => ?_) (fun h109 => ?_)
  · skip
    refine r_iconst rfl ?_
    refine r_zret rfl (by first | exact Or.inl rfl | exact Or.inr rfl | assumption) ?_
    exact h0 (fun q => h109 q.1)
  · skip
    refine r_lload rfl rfl ?_
    refine r_lload rfl rfl ?_
    refine r_lmul rfl ?_
    refine r_lload rfl rfl ?_
    refine r_lload rfl rfl ?_
    refine r_lmul rfl ?_
    refine r_l_ne rfl rfl (by unfold inL; omega) (by unfold inL; omega) (fun h117 => ?_) (fun h117 => ?_)
    · skip
      refine r_iconst rfl ?_
      refine r_zret rfl (by first | exact Or.inl rfl | exact Or.inr rfl | assumption) ?_
      exact h0 (fun q => h117 q.2)
    · skip
      refine r_iconst rfl ?_
      refine r_goto rfl ?_
      refine r_zret rfl (by first | exact Or.inl rfl | exact Or.inr rfl | assumption) ?_
      exact h1 h109 h117
set_option maxHeartbeats 2000000 in
theorem x_standBoth {X : PX} {d : Nat} {S : SS} {zI zL : ZM} {Q : PQ} (hS : Sk S) {f n : Int} {I J V : Int → Int} (hf : 0 ≤ f ∧ f ≤ 10) (hT : FM zI f n I J V) (hR : FR n I J V) {f2 n2 : Int} {I2 J2 V2 : Int → Int} (hf2 : 0 ≤ f2 ∧ f2 ≤ 10) (hT2 : FM zI f2 n2 I2 J2 V2) (hR2 : FR n2 I2 J2 V2) {k j a b c e ua ub uc ue : Int} (hk : 0 ≤ k ∧ k < 780) (hj : 0 ≤ j ∧ j < 780) (ha : 0 ≤ a ∧ a < n) (hb : 0 ≤ b ∧ b < n) (hc : 0 ≤ c ∧ c < n2) (he : 0 ≤ e ∧ e < n2) (k1 : zI 206 k = ua) (k2 : zI 207 k = ub) (k3 : zI 196 j = uc) (k4 : zI 197 j = ue) (hua : ua = 40 * f + a) (hub : ub = 40 * f + b) (huc : uc = 40 * f2 + c) (hue : ue = 40 * f2 + e) (hD : (I b - I a) * (J2 e - J2 c) - (J b - J a) * (I2 e - I2 c) ≠ 0) (hQ : Q none S zI (stM zL (rdA ((J b - J a) * (V2 e - V2 c) - (V b - V a) * (J2 e - J2 c)) ((I b - I a) * (J2 e - J2 c) - (J b - J a) * (I2 e - I2 c))) (rdB ((J b - J a) * (V2 e - V2 c) - (V b - V a) * (J2 e - J2 c)) ((I b - I a) * (J2 e - J2 c) - (J b - J a) * (I2 e - I2 c))) (rdA ((V b - V a) * (I2 e - I2 c) - (I b - I a) * (V2 e - V2 c)) ((I b - I a) * (J2 e - J2 c) - (J b - J a) * (I2 e - I2 c))) (rdB ((V b - V a) * (I2 e - I2 c) - (I b - I a) * (V2 e - V2 c)) ((I b - I a) * (J2 e - J2 c) - (J b - J a) * (I2 e - I2 c))))) : wpM X (d + 4) fM_standAtBoth [pR 184, pI k, pI j] S zI zL Q := by
  obtain ⟨p, hp⟩ : ∃ x, x = I b - I a := ⟨_, rfl⟩
  obtain ⟨q, hq⟩ : ∃ x, x = J b - J a := ⟨_, rfl⟩
  obtain ⟨r, hr⟩ : ∃ x, x = V b - V a := ⟨_, rfl⟩
  obtain ⟨s, hs⟩ : ∃ x, x = I2 e - I2 c := ⟨_, rfl⟩
  obtain ⟨t, ht⟩ : ∃ x, x = J2 e - J2 c := ⟨_, rfl⟩
  obtain ⟨u, hu⟩ : ∃ x, x = V2 e - V2 c := ⟨_, rfl⟩
  rw [← hp, ← hq, ← hr, ← hs, ← ht, ← hu] at hQ
  rw [← hp, ← hq, ← hs, ← ht] at hD
  obtain ⟨ga1, ga2, ga3⟩ := hT.2 a ha.1 ha.2
  obtain ⟨gb1, gb2, gb3⟩ := hT.2 b hb.1 hb.2
  obtain ⟨gc1, gc2, gc3⟩ := hT2.2 c hc.1 hc.2
  obtain ⟨ge1, ge2, ge3⟩ := hT2.2 e he.1 he.2
  rw [← hua] at ga1 ga2 ga3
  rw [← hub] at gb1 gb2 gb3
  rw [← huc] at gc1 gc2 gc3
  rw [← hue] at ge1 ge2 ge3
  have n40 := hR.2.1
  have n240 := hR2.2.1
  have ia : 0 ≤ ua ∧ ua < 440 := by omega
  have ib : 0 ≤ ub ∧ ub < 440 := by omega
  have ic : 0 ≤ uc ∧ uc < 440 := by omega
  have ie : 0 ≤ ue ∧ ue < 440 := by omega
  have ra := hR.2.2 a ha.1 ha.2
  have rb := hR.2.2 b hb.1 hb.2
  have rc := hR2.2.2 c hc.1 hc.2
  have re := hR2.2.2 e he.1 he.2
  have i1 : -8 ≤ I b - I a ∧ I b - I a ≤ 8 := by omega
  have i2 : -8 ≤ J b - J a ∧ J b - J a ≤ 8 := by omega
  have i3' : -400 ≤ V b - V a ∧ V b - V a ≤ 400 := by omega
  have i4 : -8 ≤ I2 e - I2 c ∧ I2 e - I2 c ≤ 8 := by omega
  have i5 : -8 ≤ J2 e - J2 c ∧ J2 e - J2 c ≤ 8 := by omega
  have i6' : -400 ≤ V2 e - V2 c ∧ V2 e - V2 c ≤ 400 := by omega
  clear ra rb rc re hT hT2 hR hR2 hua hub huc hue n40 n240
  rw [← hp] at i1
  rw [← hq] at i2
  rw [← hr] at i3'
  rw [← hs] at i4
  rw [← ht] at i5
  rw [← hu] at i6'
  have hkn : k < ((780 : Nat) : Int) := by omega
  have hjn : j < ((780 : Nat) : Int) := by omega
  have ian : ua < ((440 : Nat) : Int) := by omega
  have ibn : ub < ((440 : Nat) : Int) := by omega
  have icn : uc < ((440 : Nat) : Int) := by omega
  have ien : ue < ((440 : Nat) : Int) := by omega
  have n1 : inI p := by unfold inI; omega
  have n2' : inI q := by unfold inI; omega
  have n3 : inI r := by unfold inI; omega
  have n4 : inI s := by unfold inI; omega
  have n5 : inI t := by unfold inI; omega
  have n6 : inI u := by unfold inI; omega
  have fin := v_sb (X := X) (d := d) (Q := Q) (k := k) (j := j) hS i1 i2 i3' i4 i5 i6' hD hQ
  refine wp_in (C := c_M_standAtBoth) (ls := [some (pR 184), some (pI k), some (pI j), none, none, none, none, none, none, none, none, none, none, none, none, none, none]) rfl rfl rfl rfl rfl ?_
  refine r_aload_n rfl rfl ?_
  refine r_getR rfl (so184 hS) (sr184_3 hS) ?_
  refine r_aload_n rfl rfl ?_
  refine r_getR rfl (so184 hS) (sr184_38 hS) ?_
  refine r_iload_n rfl rfl ?_
  refine r_iald rfl (sw207 hS) hk.1 hkn ?_
  rw [k2]
  refine r_iald rfl (sw187 hS) ib.1 ibn ?_
  rw [gb1]
  refine r_aload_n rfl rfl ?_
  refine r_getR rfl (so184 hS) (sr184_3 hS) ?_
  refine r_aload_n rfl rfl ?_
  refine r_getR rfl (so184 hS) (sr184_37 hS) ?_
  refine r_iload_n rfl rfl ?_
  refine r_iald rfl (sw206 hS) hk.1 hkn ?_
  rw [k1]
  refine r_iald rfl (sw187 hS) ia.1 ian ?_
  rw [ga1]
  refine r_isub rfl ?_
  rw [← hp]
  refine r_i2l rfl n1 ?_
  refine r_lstore_n rfl (Nat.le_of_ble_eq_true rfl) ?_
  refine r_aload_n rfl rfl ?_
  refine r_getR rfl (so184 hS) (sr184_4 hS) ?_
  refine r_aload_n rfl rfl ?_
  refine r_getR rfl (so184 hS) (sr184_38 hS) ?_
  refine r_iload_n rfl rfl ?_
  refine r_iald rfl (sw207 hS) hk.1 hkn ?_
  rw [k2]
  refine r_iald rfl (sw188 hS) ib.1 ibn ?_
  rw [gb2]
  refine r_aload_n rfl rfl ?_
  refine r_getR rfl (so184 hS) (sr184_4 hS) ?_
  refine r_aload_n rfl rfl ?_
  refine r_getR rfl (so184 hS) (sr184_37 hS) ?_
  refine r_iload_n rfl rfl ?_
  refine r_iald rfl (sw206 hS) hk.1 hkn ?_
  rw [k1]
  refine r_iald rfl (sw188 hS) ia.1 ian ?_
  rw [ga2]
  refine r_isub rfl ?_
  rw [← hq]
  refine r_i2l rfl n2' ?_
  refine r_lstore rfl (Nat.le_of_ble_eq_true rfl) ?_
  refine r_aload_n rfl rfl ?_
  refine r_getR rfl (so184 hS) (sr184_5 hS) ?_
  refine r_aload_n rfl rfl ?_
  refine r_getR rfl (so184 hS) (sr184_38 hS) ?_
  refine r_iload_n rfl rfl ?_
  refine r_iald rfl (sw207 hS) hk.1 hkn ?_
  rw [k2]
  refine r_iald rfl (sw189 hS) ib.1 ibn ?_
  rw [gb3]
  refine r_aload_n rfl rfl ?_
  refine r_getR rfl (so184 hS) (sr184_5 hS) ?_
  refine r_aload_n rfl rfl ?_
  refine r_getR rfl (so184 hS) (sr184_37 hS) ?_
  refine r_iload_n rfl rfl ?_
  refine r_iald rfl (sw206 hS) hk.1 hkn ?_
  rw [k1]
  refine r_iald rfl (sw189 hS) ia.1 ian ?_
  rw [ga3]
  refine r_isub rfl ?_
  rw [← hr]
  refine r_i2l rfl n3 ?_
  refine r_lstore rfl (Nat.le_of_ble_eq_true rfl) ?_
  change Run X (d + 3) c_M_standAtBoth 51 [some (pR 184), some (pI k), some (pI j), some (pL p), none, some (pL q), none, some (pL r), none, none, none, none, none, none, none, none, none] [] S zI zL 0 0 Q
  refine r_aload_n rfl rfl ?_
  refine r_getR rfl (so184 hS) (sr184_3 hS) ?_
  refine r_aload_n rfl rfl ?_
  refine r_getR rfl (so184 hS) (sr184_20 hS) ?_
  refine r_iload_n rfl rfl ?_
  refine r_iald rfl (sw197 hS) hj.1 hjn ?_
  rw [k4]
  refine r_iald rfl (sw187 hS) ie.1 ien ?_
  rw [ge1]
  refine r_aload_n rfl rfl ?_
  refine r_getR rfl (so184 hS) (sr184_3 hS) ?_
  refine r_aload_n rfl rfl ?_
  refine r_getR rfl (so184 hS) (sr184_19 hS) ?_
  refine r_iload_n rfl rfl ?_
  refine r_iald rfl (sw196 hS) hj.1 hjn ?_
  rw [k3]
  refine r_iald rfl (sw187 hS) ic.1 icn ?_
  rw [gc1]
  refine r_isub rfl ?_
  rw [← hs]
  refine r_i2l rfl n4 ?_
  refine r_lstore rfl (Nat.le_of_ble_eq_true rfl) ?_
  change Run X (d + 3) c_M_standAtBoth 68 [some (pR 184), some (pI k), some (pI j), some (pL p), none, some (pL q), none, some (pL r), none, some (pL s), none, none, none, none, none, none, none] [] S zI zL 0 0 Q
  refine r_aload_n rfl rfl ?_
  refine r_getR rfl (so184 hS) (sr184_4 hS) ?_
  refine r_aload_n rfl rfl ?_
  refine r_getR rfl (so184 hS) (sr184_20 hS) ?_
  refine r_iload_n rfl rfl ?_
  refine r_iald rfl (sw197 hS) hj.1 hjn ?_
  rw [k4]
  refine r_iald rfl (sw188 hS) ie.1 ien ?_
  rw [ge2]
  refine r_aload_n rfl rfl ?_
  refine r_getR rfl (so184 hS) (sr184_4 hS) ?_
  refine r_aload_n rfl rfl ?_
  refine r_getR rfl (so184 hS) (sr184_19 hS) ?_
  refine r_iload_n rfl rfl ?_
  refine r_iald rfl (sw196 hS) hj.1 hjn ?_
  rw [k3]
  refine r_iald rfl (sw188 hS) ic.1 icn ?_
  rw [gc2]
  refine r_isub rfl ?_
  rw [← ht]
  refine r_i2l rfl n5 ?_
  refine r_lstore rfl (Nat.le_of_ble_eq_true rfl) ?_
  change Run X (d + 3) c_M_standAtBoth 85 [some (pR 184), some (pI k), some (pI j), some (pL p), none, some (pL q), none, some (pL r), none, some (pL s), none, some (pL t), none, none, none, none, none] [] S zI zL 0 0 Q
  refine r_aload_n rfl rfl ?_
  refine r_getR rfl (so184 hS) (sr184_5 hS) ?_
  refine r_aload_n rfl rfl ?_
  refine r_getR rfl (so184 hS) (sr184_20 hS) ?_
  refine r_iload_n rfl rfl ?_
  refine r_iald rfl (sw197 hS) hj.1 hjn ?_
  rw [k4]
  refine r_iald rfl (sw189 hS) ie.1 ien ?_
  rw [ge3]
  refine r_aload_n rfl rfl ?_
  refine r_getR rfl (so184 hS) (sr184_5 hS) ?_
  refine r_aload_n rfl rfl ?_
  refine r_getR rfl (so184 hS) (sr184_19 hS) ?_
  refine r_iload_n rfl rfl ?_
  refine r_iald rfl (sw196 hS) hj.1 hjn ?_
  rw [k3]
  refine r_iald rfl (sw189 hS) ic.1 icn ?_
  rw [gc3]
  refine r_isub rfl ?_
  rw [← hu]
  refine r_i2l rfl n6 ?_
  refine r_lstore rfl (Nat.le_of_ble_eq_true rfl) ?_
  exact fin
set_option maxHeartbeats 2000000 in
theorem x_oneLine {X : PX} {d : Nat} {S : SS} {zI zL : ZM} {Q : PQ} (hS : Sk S) {f n : Int} {I J V : Int → Int} (hf : 0 ≤ f ∧ f ≤ 10) (hT : FM zI f n I J V) (hR : FR n I J V) {f2 n2 : Int} {I2 J2 V2 : Int → Int} (hf2 : 0 ≤ f2 ∧ f2 ≤ 10) (hT2 : FM zI f2 n2 I2 J2 V2) (hR2 : FR n2 I2 J2 V2) {k j a b c e ua ub uc ue : Int} (hk : 0 ≤ k ∧ k < 780) (hj : 0 ≤ j ∧ j < 780) (ha : 0 ≤ a ∧ a < n) (hb : 0 ≤ b ∧ b < n) (hc : 0 ≤ c ∧ c < n2) (he : 0 ≤ e ∧ e < n2) (k1 : zI 206 k = ua) (k2 : zI 207 k = ub) (k3 : zI 196 j = uc) (k4 : zI 197 j = ue) (hua : ua = 40 * f + a) (hub : ub = 40 * f + b) (huc : uc = 40 * f2 + c) (hue : ue = 40 * f2 + e) (h1 : (I b - I a) * (V2 e - V2 c) = (I2 e - I2 c) * (V b - V a) → (J b - J a) * (V2 e - V2 c) = (J2 e - J2 c) * (V b - V a) → Q (some (pI 1)) S zI zL) (h0 : ¬ ((I b - I a) * (V2 e - V2 c) = (I2 e - I2 c) * (V b - V a) ∧ (J b - J a) * (V2 e - V2 c) = (J2 e - J2 c) * (V b - V a)) → Q (some (pI 0)) S zI zL) : wpM X (d + 1) fM_isOneLine [pR 184, pI k, pI j] S zI zL Q := by
  obtain ⟨p, hp⟩ : ∃ x, x = I b - I a := ⟨_, rfl⟩
  obtain ⟨q, hq⟩ : ∃ x, x = J b - J a := ⟨_, rfl⟩
  obtain ⟨r, hr⟩ : ∃ x, x = V b - V a := ⟨_, rfl⟩
  obtain ⟨s, hs⟩ : ∃ x, x = I2 e - I2 c := ⟨_, rfl⟩
  obtain ⟨t, ht⟩ : ∃ x, x = J2 e - J2 c := ⟨_, rfl⟩
  obtain ⟨u, hu⟩ : ∃ x, x = V2 e - V2 c := ⟨_, rfl⟩
  rw [← hp, ← hq, ← hr, ← hs, ← ht, ← hu] at h1 h0
  obtain ⟨ga1, ga2, ga3⟩ := hT.2 a ha.1 ha.2
  obtain ⟨gb1, gb2, gb3⟩ := hT.2 b hb.1 hb.2
  obtain ⟨gc1, gc2, gc3⟩ := hT2.2 c hc.1 hc.2
  obtain ⟨ge1, ge2, ge3⟩ := hT2.2 e he.1 he.2
  rw [← hua] at ga1 ga2 ga3
  rw [← hub] at gb1 gb2 gb3
  rw [← huc] at gc1 gc2 gc3
  rw [← hue] at ge1 ge2 ge3
  have n40 := hR.2.1
  have n240 := hR2.2.1
  have ia : 0 ≤ ua ∧ ua < 440 := by omega
  have ib : 0 ≤ ub ∧ ub < 440 := by omega
  have ic : 0 ≤ uc ∧ uc < 440 := by omega
  have ie : 0 ≤ ue ∧ ue < 440 := by omega
  have ra := hR.2.2 a ha.1 ha.2
  have rb := hR.2.2 b hb.1 hb.2
  have rc := hR2.2.2 c hc.1 hc.2
  have re := hR2.2.2 e he.1 he.2
  have i1 : -8 ≤ I b - I a ∧ I b - I a ≤ 8 := by omega
  have i2 : -8 ≤ J b - J a ∧ J b - J a ≤ 8 := by omega
  have i3' : -400 ≤ V b - V a ∧ V b - V a ≤ 400 := by omega
  have i4 : -8 ≤ I2 e - I2 c ∧ I2 e - I2 c ≤ 8 := by omega
  have i5 : -8 ≤ J2 e - J2 c ∧ J2 e - J2 c ≤ 8 := by omega
  have i6' : -400 ≤ V2 e - V2 c ∧ V2 e - V2 c ≤ 400 := by omega
  clear ra rb rc re hT hT2 hR hR2 hua hub huc hue n40 n240
  rw [← hp] at i1
  rw [← hq] at i2
  rw [← hr] at i3'
  rw [← hs] at i4
  rw [← ht] at i5
  rw [← hu] at i6'
  have hkn : k < ((780 : Nat) : Int) := by omega
  have hjn : j < ((780 : Nat) : Int) := by omega
  have ian : ua < ((440 : Nat) : Int) := by omega
  have ibn : ub < ((440 : Nat) : Int) := by omega
  have icn : uc < ((440 : Nat) : Int) := by omega
  have ien : ue < ((440 : Nat) : Int) := by omega
  have n1 : inI p := by unfold inI; omega
  have n2' : inI q := by unfold inI; omega
  have n3 : inI r := by unfold inI; omega
  have n4 : inI s := by unfold inI; omega
  have n5 : inI t := by unfold inI; omega
  have n6 : inI u := by unfold inI; omega
  have fin := v_ol (X := X) (d := d) (Q := Q) (k := k) (j := j) hS i1 i2 i3' i4 i5 i6' h1 h0
  refine wp_in (C := c_M_isOneLine) (ls := [some (pR 184), some (pI k), some (pI j), none, none, none, none, none, none, none, none, none, none, none, none]) rfl rfl rfl rfl rfl ?_
  refine r_aload_n rfl rfl ?_
  refine r_getR rfl (so184 hS) (sr184_3 hS) ?_
  refine r_aload_n rfl rfl ?_
  refine r_getR rfl (so184 hS) (sr184_38 hS) ?_
  refine r_iload_n rfl rfl ?_
  refine r_iald rfl (sw207 hS) hk.1 hkn ?_
  rw [k2]
  refine r_iald rfl (sw187 hS) ib.1 ibn ?_
  rw [gb1]
  refine r_aload_n rfl rfl ?_
  refine r_getR rfl (so184 hS) (sr184_3 hS) ?_
  refine r_aload_n rfl rfl ?_
  refine r_getR rfl (so184 hS) (sr184_37 hS) ?_
  refine r_iload_n rfl rfl ?_
  refine r_iald rfl (sw206 hS) hk.1 hkn ?_
  rw [k1]
  refine r_iald rfl (sw187 hS) ia.1 ian ?_
  rw [ga1]
  refine r_isub rfl ?_
  rw [← hp]
  refine r_i2l rfl n1 ?_
  refine r_lstore_n rfl (Nat.le_of_ble_eq_true rfl) ?_
  refine r_aload_n rfl rfl ?_
  refine r_getR rfl (so184 hS) (sr184_4 hS) ?_
  refine r_aload_n rfl rfl ?_
  refine r_getR rfl (so184 hS) (sr184_38 hS) ?_
  refine r_iload_n rfl rfl ?_
  refine r_iald rfl (sw207 hS) hk.1 hkn ?_
  rw [k2]
  refine r_iald rfl (sw188 hS) ib.1 ibn ?_
  rw [gb2]
  refine r_aload_n rfl rfl ?_
  refine r_getR rfl (so184 hS) (sr184_4 hS) ?_
  refine r_aload_n rfl rfl ?_
  refine r_getR rfl (so184 hS) (sr184_37 hS) ?_
  refine r_iload_n rfl rfl ?_
  refine r_iald rfl (sw206 hS) hk.1 hkn ?_
  rw [k1]
  refine r_iald rfl (sw188 hS) ia.1 ian ?_
  rw [ga2]
  refine r_isub rfl ?_
  rw [← hq]
  refine r_i2l rfl n2' ?_
  refine r_lstore rfl (Nat.le_of_ble_eq_true rfl) ?_
  refine r_aload_n rfl rfl ?_
  refine r_getR rfl (so184 hS) (sr184_5 hS) ?_
  refine r_aload_n rfl rfl ?_
  refine r_getR rfl (so184 hS) (sr184_38 hS) ?_
  refine r_iload_n rfl rfl ?_
  refine r_iald rfl (sw207 hS) hk.1 hkn ?_
  rw [k2]
  refine r_iald rfl (sw189 hS) ib.1 ibn ?_
  rw [gb3]
  refine r_aload_n rfl rfl ?_
  refine r_getR rfl (so184 hS) (sr184_5 hS) ?_
  refine r_aload_n rfl rfl ?_
  refine r_getR rfl (so184 hS) (sr184_37 hS) ?_
  refine r_iload_n rfl rfl ?_
  refine r_iald rfl (sw206 hS) hk.1 hkn ?_
  rw [k1]
  refine r_iald rfl (sw189 hS) ia.1 ian ?_
  rw [ga3]
  refine r_isub rfl ?_
  rw [← hr]
  refine r_i2l rfl n3 ?_
  refine r_lstore rfl (Nat.le_of_ble_eq_true rfl) ?_
  change Run X d c_M_isOneLine 51 [some (pR 184), some (pI k), some (pI j), some (pL p), none, some (pL q), none, some (pL r), none, none, none, none, none, none, none] [] S zI zL 0 0 Q
  refine r_aload_n rfl rfl ?_
  refine r_getR rfl (so184 hS) (sr184_3 hS) ?_
  refine r_aload_n rfl rfl ?_
  refine r_getR rfl (so184 hS) (sr184_20 hS) ?_
  refine r_iload_n rfl rfl ?_
  refine r_iald rfl (sw197 hS) hj.1 hjn ?_
  rw [k4]
  refine r_iald rfl (sw187 hS) ie.1 ien ?_
  rw [ge1]
  refine r_aload_n rfl rfl ?_
  refine r_getR rfl (so184 hS) (sr184_3 hS) ?_
  refine r_aload_n rfl rfl ?_
  refine r_getR rfl (so184 hS) (sr184_19 hS) ?_
  refine r_iload_n rfl rfl ?_
  refine r_iald rfl (sw196 hS) hj.1 hjn ?_
  rw [k3]
  refine r_iald rfl (sw187 hS) ic.1 icn ?_
  rw [gc1]
  refine r_isub rfl ?_
  rw [← hs]
  refine r_i2l rfl n4 ?_
  refine r_lstore rfl (Nat.le_of_ble_eq_true rfl) ?_
  change Run X d c_M_isOneLine 68 [some (pR 184), some (pI k), some (pI j), some (pL p), none, some (pL q), none, some (pL r), none, some (pL s), none, none, none, none, none] [] S zI zL 0 0 Q
  refine r_aload_n rfl rfl ?_
  refine r_getR rfl (so184 hS) (sr184_4 hS) ?_
  refine r_aload_n rfl rfl ?_
  refine r_getR rfl (so184 hS) (sr184_20 hS) ?_
  refine r_iload_n rfl rfl ?_
  refine r_iald rfl (sw197 hS) hj.1 hjn ?_
  rw [k4]
  refine r_iald rfl (sw188 hS) ie.1 ien ?_
  rw [ge2]
  refine r_aload_n rfl rfl ?_
  refine r_getR rfl (so184 hS) (sr184_4 hS) ?_
  refine r_aload_n rfl rfl ?_
  refine r_getR rfl (so184 hS) (sr184_19 hS) ?_
  refine r_iload_n rfl rfl ?_
  refine r_iald rfl (sw196 hS) hj.1 hjn ?_
  rw [k3]
  refine r_iald rfl (sw188 hS) ic.1 icn ?_
  rw [gc2]
  refine r_isub rfl ?_
  rw [← ht]
  refine r_i2l rfl n5 ?_
  refine r_lstore rfl (Nat.le_of_ble_eq_true rfl) ?_
  change Run X d c_M_isOneLine 85 [some (pR 184), some (pI k), some (pI j), some (pL p), none, some (pL q), none, some (pL r), none, some (pL s), none, some (pL t), none, none, none] [] S zI zL 0 0 Q
  refine r_aload_n rfl rfl ?_
  refine r_getR rfl (so184 hS) (sr184_5 hS) ?_
  refine r_aload_n rfl rfl ?_
  refine r_getR rfl (so184 hS) (sr184_20 hS) ?_
  refine r_iload_n rfl rfl ?_
  refine r_iald rfl (sw197 hS) hj.1 hjn ?_
  rw [k4]
  refine r_iald rfl (sw189 hS) ie.1 ien ?_
  rw [ge3]
  refine r_aload_n rfl rfl ?_
  refine r_getR rfl (so184 hS) (sr184_5 hS) ?_
  refine r_aload_n rfl rfl ?_
  refine r_getR rfl (so184 hS) (sr184_19 hS) ?_
  refine r_iload_n rfl rfl ?_
  refine r_iald rfl (sw196 hS) hj.1 hjn ?_
  rw [k3]
  refine r_iald rfl (sw189 hS) ic.1 icn ?_
  rw [gc3]
  refine r_isub rfl ?_
  rw [← hu]
  refine r_i2l rfl n6 ?_
  refine r_lstore rfl (Nat.le_of_ble_eq_true rfl) ?_
  exact fin
