/-! THE REFERENCE: the points of an edge, the edges -/
def ptL (z : ZM) (k x xd y yd : Int) : ZM := zput (zput (zput (zput z 203 k x) 203 (k + 1) xd) 203 (k + 2) y) 203 (k + 3) yd
theorem ptL_row {z : ZM} {k x xd y yd : Int} {c : Nat} (h : c ≠ 203) : ptL z k x xd y yd c = z c := by unfold ptL; rw [zput_row h, zput_row h, zput_row h, zput_row h]
theorem ptL_off {z : ZM} {k x xd y yd j : Int} (h : j < k ∨ k + 3 < j) : ptL z k x xd y yd 203 j = z 203 j := by unfold ptL; rw [zput_off (by omega), zput_off (by omega), zput_off (by omega), zput_off (by omega)]
def ptH (z : ZM) (c : Nat) (k x xd y yd : Int) : Prop := z c k = x ∧ z c (k + 1) = xd ∧ z c (k + 2) = y ∧ z c (k + 3) = yd
theorem ptL_H {z : ZM} {k x xd y yd : Int} : ptH (ptL z k x xd y yd) 203 k x xd y yd := by unfold ptL ptH zput; simp (disch := omega) only [if_pos, if_neg, ↓reduceIte, true_and, and_true, true_or, or_true, and_self]
def ptX (p c B d A y : Int) : Int := -p * c * B + d * A * y
set_option maxHeartbeats 2000000 in
theorem v_pt {X : PX} {d : Nat} {S : SS} {zI zL : ZM} {Q : PQ} (hS : Sk S) {k s t d0 e0 A B p q y c : Int} (hk : 0 ≤ k ∧ k + 3 < 6240) (bd : -8 ≤ d0 ∧ d0 ≤ 8) (be : -8 ≤ e0 ∧ e0 ≤ 8) (bA : -102400 ≤ A ∧ A ≤ 102400) (bB : -16384 ≤ B ∧ B ≤ 16384) (hB : B ≠ 0) (bp : -8 ≤ p ∧ p ≤ 8) (bq : -8 ≤ q ∧ q ≤ 8) (by1 : 1 ≤ y ∧ y ≤ 128) (bc : -400 ≤ c ∧ c ≤ 400) (hQ : Q none S zI (ptL zL k (rdA (ptX p c B d0 A y) (y * B)) (rdB (ptX p c B d0 A y) (y * B)) (rdA (ptX q c B e0 A y) (y * B)) (rdB (ptX q c B e0 A y) (y * B)))) : Run X (d + 2) c_M_pointOf 41 [some (pR 184), some (pI k), some (pI s), some (pI t), some (pI d0), some (pI e0), some (pL A), none, some (pL B), none, some (pL p), none, some (pL q), none, some (pL y), none, some (pL c), none, none, none, none, none] [] S zI zL 0 0 Q := by
  have m1 := mb (a := -p) (b := c) (A := 8) (B := 400) (by omega) (by omega) bc.1 bc.2
  have m2 := mb (a := -p * c) (b := B) (A := 3200) (B := 16384) (by omega) (by omega) bB.1 bB.2
  have m3 := mb (a := d0) (b := A) (A := 8) (B := 102400) bd.1 bd.2 bA.1 bA.2
  have m4 := mb (a := d0 * A) (b := y) (A := 819200) (B := 128) (by omega) (by omega) (by omega) by1.2
  have m5 := mb (a := -q) (b := c) (A := 8) (B := 400) (by omega) (by omega) bc.1 bc.2
  have m6 := mb (a := -q * c) (b := B) (A := 3200) (B := 16384) (by omega) (by omega) bB.1 bB.2
  have m7 := mb (a := e0) (b := A) (A := 8) (B := 102400) be.1 be.2 bA.1 bA.2
  have m8 := mb (a := e0 * A) (b := y) (A := 819200) (B := 128) (by omega) (by omega) (by omega) by1.2
  have m9 := mb (a := y) (b := B) (A := 128) (B := 16384) (by omega) by1.2 bB.1 bB.2
  have hX : -500000000000000 ≤ ptX p c B d0 A y ∧ ptX p c B d0 A y ≤ 500000000000000 := by unfold ptX; omega
  have hY : -500000000000000 ≤ ptX q c B e0 A y ∧ ptX q c B e0 A y ≤ 500000000000000 := by unfold ptX; omega
  have hD : -500000000000000 ≤ y * B ∧ y * B ≤ 500000000000000 := by omega
  have hD0 : y * B ≠ 0 := Int.mul_ne_zero (by omega) hB
  clear m1 m2 m3 m4 m5 m6 m7 m8 m9
  refine r_lload rfl rfl ?_
  refine r_lneg rfl ?_
  refine r_lload rfl rfl ?_
  refine r_lmul rfl ?_
  refine r_lload rfl rfl ?_
  refine r_lmul rfl ?_
  refine r_iload rfl rfl ?_
  refine r_i2l rfl (by unfold inI; omega) ?_
  refine r_lload rfl rfl ?_
  refine r_lmul rfl ?_
  refine r_lload rfl rfl ?_
  refine r_lmul rfl ?_
  refine r_ladd rfl ?_
  rw [show -p * c * B + d0 * A * y = ptX p c B d0 A y from rfl]
  refine r_lstore rfl (Nat.le_of_ble_eq_true rfl) ?_
  refine r_lload rfl rfl ?_
  refine r_lneg rfl ?_
  refine r_lload rfl rfl ?_
  refine r_lmul rfl ?_
  refine r_lload rfl rfl ?_
  refine r_lmul rfl ?_
  refine r_iload rfl rfl ?_
  refine r_i2l rfl (by unfold inI; omega) ?_
  refine r_lload rfl rfl ?_
  refine r_lmul rfl ?_
  refine r_lload rfl rfl ?_
  refine r_lmul rfl ?_
  refine r_ladd rfl ?_
  rw [show -q * c * B + e0 * A * y = ptX q c B e0 A y from rfl]
  refine r_lstore rfl (Nat.le_of_ble_eq_true rfl) ?_
  refine r_aload_n rfl rfl ?_
  refine r_getR rfl (so184 hS) (sr184_26 hS) ?_
  refine r_iload_n rfl rfl ?_
  refine r_aload_n rfl rfl ?_
  refine r_lload rfl rfl ?_
  refine r_lload rfl rfl ?_
  refine r_lload rfl rfl ?_
  refine r_lmul rfl ?_
  refine r_iconst rfl ?_
  refine r_cV4 rfl (so184 hS) (Nat.le_of_ble_eq_true rfl) rfl rfl (x_lowest hS hX hD hD0 (by unfold inI; omega) ?_)
  refine r_last rfl (sw203 hS) (by omega) (by omega) ?_
  refine r_aload_n rfl rfl ?_
  refine r_getR rfl (so184 hS) (sr184_26 hS) ?_
  refine r_iload_n rfl rfl ?_
  refine r_iconst rfl ?_
  refine r_iadd rfl ?_
  refine r_aload_n rfl rfl ?_
  refine r_lload rfl rfl ?_
  refine r_lload rfl rfl ?_
  refine r_lload rfl rfl ?_
  refine r_lmul rfl ?_
  refine r_iconst rfl ?_
  refine r_cV4 rfl (so184 hS) (Nat.le_of_ble_eq_true rfl) rfl rfl (x_lowest hS hX hD hD0 (by unfold inI; omega) ?_)
  refine r_last rfl (sw203 hS) (by omega) (by omega) ?_
  refine r_aload_n rfl rfl ?_
  refine r_getR rfl (so184 hS) (sr184_26 hS) ?_
  refine r_iload_n rfl rfl ?_
  refine r_iconst rfl ?_
  refine r_iadd rfl ?_
  refine r_aload_n rfl rfl ?_
  refine r_lload rfl rfl ?_
  refine r_lload rfl rfl ?_
  refine r_lload rfl rfl ?_
  refine r_lmul rfl ?_
  refine r_iconst rfl ?_
  refine r_cV4 rfl (so184 hS) (Nat.le_of_ble_eq_true rfl) rfl rfl (x_lowest hS hY hD hD0 (by unfold inI; omega) ?_)
  refine r_last rfl (sw203 hS) (by omega) (by omega) ?_
  refine r_aload_n rfl rfl ?_
  refine r_getR rfl (so184 hS) (sr184_26 hS) ?_
  refine r_iload_n rfl rfl ?_
  refine r_iconst rfl ?_
  refine r_iadd rfl ?_
  refine r_aload_n rfl rfl ?_
  refine r_lload rfl rfl ?_
  refine r_lload rfl rfl ?_
  refine r_lload rfl rfl ?_
  refine r_lmul rfl ?_
  refine r_iconst rfl ?_
  refine r_cV4 rfl (so184 hS) (Nat.le_of_ble_eq_true rfl) rfl rfl (x_lowest hS hY hD hD0 (by unfold inI; omega) ?_)
  refine r_last rfl (sw203 hS) (by omega) (by omega) ?_
  refine r_ret rfl ?_
  exact hQ
set_option maxHeartbeats 2000000 in
theorem x_pointOf {X : PX} {d : Nat} {S : SS} {zI zL : ZM} {Q : PQ} (hS : Sk S) {f n : Int} {I J V : Int → Int} (hf : 0 ≤ f ∧ f ≤ 10) (hT : FM zI f n I J V) (hR : FR n I J V) {a b s t d0 e0 k A B : Int} (ha : 0 ≤ a ∧ a < n) (hb : 0 ≤ b ∧ b < n) (hab : I b ≠ I a ∨ J b ≠ J a) (hs : s = 40 * f + a) (ht : t = 40 * f + b) (bd : -8 ≤ d0 ∧ d0 ≤ 8) (be : -8 ≤ e0 ∧ e0 ≤ 8) (hk : 0 ≤ k ∧ k + 3 < 6240) (bA : -102400 ≤ A ∧ A ≤ 102400) (bB : -16384 ≤ B ∧ B ≤ 16384) (hB : B ≠ 0) (hQ : Q none S zI (ptL zL k (rdA (ptX (I b - I a) (V b - V a) B d0 A (byE I J a b)) (byE I J a b * B)) (rdB (ptX (I b - I a) (V b - V a) B d0 A (byE I J a b)) (byE I J a b * B)) (rdA (ptX (J b - J a) (V b - V a) B e0 A (byE I J a b)) (byE I J a b * B)) (rdB (ptX (J b - J a) (V b - V a) B e0 A (byE I J a b)) (byE I J a b * B)))) : wpM X (d + 3) fM_pointOf [pR 184, pI k, pI s, pI t, pI d0, pI e0, pL A, pL B] S zI zL Q := by
  have hT0 := hT
  have hR0 := hR
  obtain ⟨e4, hel⟩ := hT
  obtain ⟨hn0, hn40, hrg⟩ := hR
  obtain ⟨ga1, ga2, ga3⟩ := hel a ha.1 ha.2
  obtain ⟨gb1, gb2, gb3⟩ := hel b hb.1 hb.2
  rw [← hs] at ga1 ga2 ga3
  rw [← ht] at gb1 gb2 gb3
  have byb := byE_b hR0 ha hb hab
  have ra := hrg a ha.1 ha.2
  have rb := hrg b hb.1 hb.2
  have fin := v_pt (X := X) (d := d) (Q := Q) (s := s) (t := t) (zI := zI) (zL := zL) (p := I b - I a) (q := J b - J a) (c := V b - V a) hS hk bd be bA bB hB (by omega) (by omega) byb (by omega) hQ
  refine wp_in (C := c_M_pointOf) (ls := [some (pR 184), some (pI k), some (pI s), some (pI t), some (pI d0), some (pI e0), some (pL A), none, some (pL B), none, none, none, none, none, none, none, none, none, none, none, none, none]) rfl rfl rfl rfl rfl ?_
  refine r_aload_n rfl rfl ?_
  refine r_getR rfl (so184 hS) (sr184_3 hS) ?_
  refine r_iload_n rfl rfl ?_
  refine r_iald rfl (sw187 hS) (by omega) (by omega) ?_
  rw [gb1]
  refine r_aload_n rfl rfl ?_
  refine r_getR rfl (so184 hS) (sr184_3 hS) ?_
  refine r_iload_n rfl rfl ?_
  refine r_iald rfl (sw187 hS) (by omega) (by omega) ?_
  rw [ga1]
  refine r_isub rfl ?_
  refine r_i2l rfl (by unfold inI; omega) ?_
  refine r_lstore rfl (Nat.le_of_ble_eq_true rfl) ?_
  refine r_aload_n rfl rfl ?_
  refine r_getR rfl (so184 hS) (sr184_4 hS) ?_
  refine r_iload_n rfl rfl ?_
  refine r_iald rfl (sw188 hS) (by omega) (by omega) ?_
  rw [gb2]
  refine r_aload_n rfl rfl ?_
  refine r_getR rfl (so184 hS) (sr184_4 hS) ?_
  refine r_iload_n rfl rfl ?_
  refine r_iald rfl (sw188 hS) (by omega) (by omega) ?_
  rw [ga2]
  refine r_isub rfl ?_
  refine r_i2l rfl (by unfold inI; omega) ?_
  refine r_lstore rfl (Nat.le_of_ble_eq_true rfl) ?_
  refine r_lload rfl rfl ?_
  refine r_lload rfl rfl ?_
  refine r_lmul rfl ?_
  refine r_lload rfl rfl ?_
  refine r_lload rfl rfl ?_
  refine r_lmul rfl ?_
  refine r_ladd rfl ?_
  rw [show (I b - I a) * (I b - I a) + (J b - J a) * (J b - J a) = byE I J a b from rfl]
  refine r_lstore rfl (Nat.le_of_ble_eq_true rfl) ?_
  refine r_aload_n rfl rfl ?_
  refine r_getR rfl (so184 hS) (sr184_5 hS) ?_
  refine r_iload_n rfl rfl ?_
  refine r_iald rfl (sw189 hS) (by omega) (by omega) ?_
  rw [gb3]
  refine r_aload_n rfl rfl ?_
  refine r_getR rfl (so184 hS) (sr184_5 hS) ?_
  refine r_iload_n rfl rfl ?_
  refine r_iald rfl (sw189 hS) (by omega) (by omega) ?_
  rw [ga3]
  refine r_isub rfl ?_
  refine r_i2l rfl (by unfold inI; omega) ?_
  refine r_lstore rfl (Nat.le_of_ble_eq_true rfl) ?_
  exact fin
theorem pt_id1 {g d p q c t r y i j v s : Int} (hd : g * d = -q) (hs : g * s = t) (ht : t = p * j - q * i) (hr : r = -c * (i * p + j * q) + v * y) (hy : y = p * p + q * q) : g * ptX p c (s * y) d (-r) y = y * (y * (-c * j + q * v)) := by
  unfold ptX
  have h1 : g * (-p * c * (s * y) + d * -r * y) = y * (-p * c * (g * s) + (g * d) * -r) := by grind
  rw [h1, hd, hs, ht, hr, hy]; grind
theorem pt_id2 {g d p q c t r y i j v s : Int} (hd : g * d = p) (hs : g * s = t) (ht : t = p * j - q * i) (hr : r = -c * (i * p + j * q) + v * y) (hy : y = p * p + q * q) : g * ptX q c (s * y) d (-r) y = y * (y * -(-c * i + p * v)) := by
  unfold ptX
  have h1 : g * (-q * c * (s * y) + d * -r * y) = y * (-q * c * (g * s) + (g * d) * -r) := by grind
  rw [h1, hd, hs, ht, hr, hy]; grind
theorem pt_neg (p c B d A y : Int) : ptX p c (-B) d (-A) y = -(ptX p c B d A y) := by unfold ptX; grind
theorem rd_down {g x D y N t : Int} (hg : 0 < g) (hy : 0 < y) (hD : D ≠ 0) (ht : t ≠ 0) (h1 : g * x = y * (y * N)) (h2 : g * D = y * (y * t)) : rdA x D = rdA N t ∧ rdB x D = rdB N t := by
  have a := rd_mul (x := x) hg hD
  rw [h1, h2] at a
  have b := rd_mul (x := y * N) (b := y * t) hy (Int.mul_ne_zero (by omega) ht)
  have c := rd_mul (x := N) (b := t) hy ht
  exact ⟨a.1.symm.trans (b.1.trans c.1), a.2.symm.trans (b.2.trans c.2)⟩
theorem pt_low {I J V : Int → Int} {a b k d0 e0 g0 : Int} (hg : 0 < g0) (hd : g0 * d0 = -(J b - J a)) (he : g0 * e0 = I b - I a) (hy : 1 ≤ byE I J a b) (hs : slE I J a d0 e0 k ≠ 0) (ht : trE I J a b k ≠ 0) :
    (rdA (ptX (I b - I a) (V b - V a) (slE I J a d0 e0 k * byE I J a b) d0 (-(rsE I J V a b k)) (byE I J a b)) (byE I J a b * (slE I J a d0 e0 k * byE I J a b)) = cpX I J V a b k ∧ rdB (ptX (I b - I a) (V b - V a) (slE I J a d0 e0 k * byE I J a b) d0 (-(rsE I J V a b k)) (byE I J a b)) (byE I J a b * (slE I J a d0 e0 k * byE I J a b)) = cpXD I J V a b k) ∧
    (rdA (ptX (J b - J a) (V b - V a) (slE I J a d0 e0 k * byE I J a b) e0 (-(rsE I J V a b k)) (byE I J a b)) (byE I J a b * (slE I J a d0 e0 k * byE I J a b)) = cpY I J V a b k ∧ rdB (ptX (J b - J a) (V b - V a) (slE I J a d0 e0 k * byE I J a b) e0 (-(rsE I J V a b k)) (byE I J a b)) (byE I J a b * (slE I J a d0 e0 k * byE I J a b)) = cpYD I J V a b k) := by
  have sl := slE_g (k := k) hd he
  have hr : rsE I J V a b k = -(V b - V a) * ((I k - I a) * (I b - I a) + (J k - J a) * (J b - J a)) + (V k - V a) * byE I J a b := by unfold rsE byE; rw [show V a - V b = -(V b - V a) by omega]
  have hD : byE I J a b * (slE I J a d0 e0 k * byE I J a b) ≠ 0 := Int.mul_ne_zero (by omega) (Int.mul_ne_zero hs (by omega))
  have h2 : g0 * (byE I J a b * (slE I J a d0 e0 k * byE I J a b)) = byE I J a b * (byE I J a b * trE I J a b k) := by rw [← sl]; grind
  have i1 := pt_id1 (c := V b - V a) (r := rsE I J V a b k) (i := I k - I a) (j := J k - J a) (v := V k - V a) hd sl (by unfold trE; rfl) hr (show byE I J a b = _ from rfl)
  have i2 := pt_id2 (c := V b - V a) (r := rsE I J V a b k) (i := I k - I a) (j := J k - J a) (v := V k - V a) he sl (by unfold trE; rfl) hr (show byE I J a b = _ from rfl)
  rw [show -(V b - V a) * (J k - J a) + (J b - J a) * (V k - V a) = cnX I J V a b k from by unfold cnX; rw [show V a - V b = -(V b - V a) by omega]] at i1
  rw [show -(-(V b - V a) * (I k - I a) + (I b - I a) * (V k - V a)) = cnY I J V a b k from by unfold cnY; rw [show V a - V b = -(V b - V a) by omega]] at i2
  exact ⟨rd_down hg (by omega) hD ht i1 h2, rd_down hg (by omega) hD ht i2 h2⟩
theorem pt_high {I J V : Int → Int} {a b k d0 e0 g0 : Int} (hg : 0 < g0) (hd : g0 * d0 = -(J b - J a)) (he : g0 * e0 = I b - I a) (hy : 1 ≤ byE I J a b) (hs : slE I J a d0 e0 k ≠ 0) (ht : trE I J a b k ≠ 0) :
    (rdA (ptX (I b - I a) (V b - V a) (-(slE I J a d0 e0 k) * byE I J a b) d0 (rsE I J V a b k) (byE I J a b)) (byE I J a b * (-(slE I J a d0 e0 k) * byE I J a b)) = cpX I J V a b k ∧ rdB (ptX (I b - I a) (V b - V a) (-(slE I J a d0 e0 k) * byE I J a b) d0 (rsE I J V a b k) (byE I J a b)) (byE I J a b * (-(slE I J a d0 e0 k) * byE I J a b)) = cpXD I J V a b k) ∧
    (rdA (ptX (J b - J a) (V b - V a) (-(slE I J a d0 e0 k) * byE I J a b) e0 (rsE I J V a b k) (byE I J a b)) (byE I J a b * (-(slE I J a d0 e0 k) * byE I J a b)) = cpY I J V a b k ∧ rdB (ptX (J b - J a) (V b - V a) (-(slE I J a d0 e0 k) * byE I J a b) e0 (rsE I J V a b k) (byE I J a b)) (byE I J a b * (-(slE I J a d0 e0 k) * byE I J a b)) = cpYD I J V a b k) := by
  have h := pt_low (V := V) hg hd he hy hs ht
  have hD : byE I J a b * (slE I J a d0 e0 k * byE I J a b) ≠ 0 := Int.mul_ne_zero (by omega) (Int.mul_ne_zero hs (by omega))
  have e1 : -(slE I J a d0 e0 k) * byE I J a b = -(slE I J a d0 e0 k * byE I J a b) := by rw [Int.neg_mul]
  have e2 := pt_neg (I b - I a) (V b - V a) (slE I J a d0 e0 k * byE I J a b) d0 (-(rsE I J V a b k)) (byE I J a b)
  have e3 := pt_neg (J b - J a) (V b - V a) (slE I J a d0 e0 k * byE I J a b) e0 (-(rsE I J V a b k)) (byE I J a b)
  rw [Int.neg_neg] at e2 e3
  rw [e1, e2, e3, Int.mul_neg, (rd_neg hD).1, (rd_neg hD).2, (rd_neg hD).1, (rd_neg hD).2]
  exact h
