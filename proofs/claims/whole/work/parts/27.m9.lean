/-! POINTS in a row -/
def PsH (zI zL : ZM) (h : Nat) (m : Int) (X XD Y YD : Int → Int) : Prop := zI h 5 = m ∧ ∀ t, 0 ≤ t → t < m → zL (h + 1) t = X t ∧ zL (h + 2) t = XD t ∧ zL (h + 3) t = Y t ∧ zL (h + 4) t = YD t
def PsR (m : Int) (X XD Y YD : Int → Int) : Prop := 0 ≤ m ∧ ∀ t, 0 ≤ t → t < m → PB (X t) (XD t) (Y t) (YD t)
def cmpP (X XD Y YD x xd y yd : Int) : Int := if X * xd - x * XD = 0 then Y * yd - y * YD else X * xd - x * XD
theorem cmpP_b {X XD Y YD x xd y yd : Int} (hA : PB X XD Y YD) (hB : PB x xd y yd) : (-2000000 ≤ X * xd - x * XD ∧ X * xd - x * XD ≤ 2000000) ∧ (-2000000 ≤ Y * yd - y * YD ∧ Y * yd - y * YD ≤ 2000000) := by
  obtain ⟨⟨p1, p2, p3, p4⟩, p5, p6, p7, p8⟩ := hA
  obtain ⟨⟨q1, q2, q3, q4⟩, q5, q6, q7, q8⟩ := hB
  have a1 := mb (A := 6400) (B := 128) p1 p2 (show -128 ≤ xd by omega) q4
  have a2 := mb (A := 6400) (B := 128) q1 q2 (show -128 ≤ XD by omega) p4
  have a3 := mb (A := 6400) (B := 128) p5 p6 (show -128 ≤ yd by omega) q8
  have a4 := mb (A := 6400) (B := 128) q5 q6 (show -128 ≤ YD by omega) p8
  omega
theorem w_fetch {X : PX} {d : Nat} {S : SS} {zI zL : ZM} {Q : PQ} {h N : Nat} {m : Int} {X0 XD Y YD : Int → Int} (hF : isPoints S h N) (hT : PsH zI zL h m X0 XD Y YD) (hR : PsR m X0 XD Y YD) (hm : m ≤ N) {p : Nat} {t : Int} (hp : isPoint S p) (hph : p < h + 1 ∨ h + 4 < p) (h0 : 0 ≤ t) (h1 : t < m) (hQ : Q none S zI (zput (zput (zput (zput zL p 0 (X0 t)) p 1 (XD t)) p 2 (Y t)) p 3 (YD t))) : wpM X (d + 1) fPoints_fetch [pR h, pI t, pR p] S zI zL Q := by
  obtain ⟨hob, ⟨hr1, hr2, hr3, hr4⟩, hf1, hf2, hf3, hf4⟩ := hF
  obtain ⟨e5, hel⟩ := hT
  obtain ⟨hm0, hrg⟩ := hR
  unfold isPoint at hp
  obtain ⟨g1, g2, g3, g4⟩ := hel t h0 h1
  refine wp_in (C := c_Points_fetch) (ls := [some (pR h), some (pI t), some (pR p)]) rfl rfl rfl rfl rfl ?_
  refine r_aload_n rfl rfl ?_
  refine r_aload_n rfl rfl ?_
  refine r_getR rfl (by assumption) (by assumption) ?_
  refine r_iload_n rfl rfl ?_
  refine r_lald rfl (by assumption) (by omega) (by omega) ?_
  rw [g1]
  refine r_putL rfl (by assumption) ?_
  refine r_aload_n rfl rfl ?_
  refine r_aload_n rfl rfl ?_
  refine r_getR rfl (by assumption) (by assumption) ?_
  refine r_iload_n rfl rfl ?_
  refine r_lald rfl (by assumption) (by omega) (by omega) ?_
  rw [zput_row (by omega), g2]
  refine r_putL rfl (by assumption) ?_
  refine r_aload_n rfl rfl ?_
  refine r_aload_n rfl rfl ?_
  refine r_getR rfl (by assumption) (by assumption) ?_
  refine r_iload_n rfl rfl ?_
  refine r_lald rfl (by assumption) (by omega) (by omega) ?_
  rw [zput_row (by omega), zput_row (by omega), g3]
  refine r_putL rfl (by assumption) ?_
  refine r_aload_n rfl rfl ?_
  refine r_aload_n rfl rfl ?_
  refine r_getR rfl (by assumption) (by assumption) ?_
  refine r_iload_n rfl rfl ?_
  refine r_lald rfl (by assumption) (by omega) (by omega) ?_
  rw [zput_row (by omega), zput_row (by omega), zput_row (by omega), g4]
  refine r_putL rfl (by assumption) ?_
  refine r_ret rfl ?_
  exact hQ
def prt (X XD Y YD w : Int) : Int := if w = 0 then X else if w = 1 then XD else if w = 2 then Y else YD
theorem w_part {X : PX} {d : Nat} {S : SS} {zI zL : ZM} {Q : PQ} {h N : Nat} {m : Int} {X0 XD Y YD : Int → Int} (hF : isPoints S h N) (hT : PsH zI zL h m X0 XD Y YD) (hR : PsR m X0 XD Y YD) (hm : m ≤ N) {t u : Int} (hu : inI u) (h0 : 0 ≤ t) (h1 : t < m) (hQ : Q (some (pL (prt (X0 t) (XD t) (Y t) (YD t) u))) S zI zL) : wpM X (d + 1) fPoints_part [pR h, pI t, pI u] S zI zL Q := by
  obtain ⟨hob, ⟨hr1, hr2, hr3, hr4⟩, hf1, hf2, hf3, hf4⟩ := hF
  obtain ⟨e5, hel⟩ := hT
  obtain ⟨hm0, hrg⟩ := hR
  obtain ⟨g1, g2, g3, g4⟩ := hel t h0 h1
  refine wp_in (C := c_Points_part) (ls := [some (pR h), some (pI t), some (pI u)]) rfl rfl rfl rfl rfl ?_
  refine r_iload_n rfl rfl ?_
  by_cases u0 : u = 0
  · subst u0
    unfold prt at hQ; rw [if_pos rfl, ← g1] at hQ
    refine r_tsw rfl hu rfl ?_
    refine r_aload_n rfl rfl ?_
    refine r_getR rfl (by assumption) (by assumption) ?_
    refine r_iload_n rfl rfl ?_
    refine r_lald rfl (by assumption) (by omega) (by omega) ?_
    refine r_lret rfl ?_
    exact hQ
  · by_cases u1 : u = 1
    · subst u1
      unfold prt at hQ; rw [if_neg (by decide), if_pos rfl, ← g2] at hQ
      refine r_tsw rfl hu rfl ?_
      refine r_aload_n rfl rfl ?_
      refine r_getR rfl (by assumption) (by assumption) ?_
      refine r_iload_n rfl rfl ?_
      refine r_lald rfl (by assumption) (by omega) (by omega) ?_
      refine r_lret rfl ?_
      exact hQ
    · by_cases u2 : u = 2
      · subst u2
        unfold prt at hQ; rw [if_neg (by decide), if_neg (by decide), if_pos rfl, ← g3] at hQ
        refine r_tsw rfl hu rfl ?_
        refine r_aload_n rfl rfl ?_
        refine r_getR rfl (by assumption) (by assumption) ?_
        refine r_iload_n rfl rfl ?_
        refine r_lald rfl (by assumption) (by omega) (by omega) ?_
        refine r_lret rfl ?_
        exact hQ
      · unfold prt at hQ; rw [if_neg u0, if_neg u1, if_neg u2, ← g4] at hQ
        refine r_tsw (t := 17) rfl hu ?_ ?_
        · unfold psw
          have e : (u < 0 ∨ 2 < u) := by omega
          exact if_pos e
        refine r_aload_n rfl rfl ?_
        refine r_getR rfl (by assumption) (by assumption) ?_
        refine r_iload_n rfl rfl ?_
        refine r_lald rfl (by assumption) (by omega) (by omega) ?_
        refine r_lret rfl ?_
        exact hQ
theorem w_compare {X : PX} {d : Nat} {S : SS} {zI zL : ZM} {Q : PQ} {h N : Nat} {m : Int} {X0 XD Y YD : Int → Int} (hF : isPoints S h N) (hT : PsH zI zL h m X0 XD Y YD) (hR : PsR m X0 XD Y YD) (hm : m ≤ N) {p : Nat} {x xd y yd : Int} (hp : isPoint S p) (hP : PH zL p x xd y yd) (hB : PB x xd y yd) {t : Int} (h0 : 0 ≤ t) (h1 : t < m) (hQ : Q (some (pL (cmpP (X0 t) (XD t) (Y t) (YD t) x xd y yd))) S zI zL) : wpM X (d + 1) fPoints_compare [pR h, pI t, pR p] S zI zL Q := by
  obtain ⟨hob, ⟨hr1, hr2, hr3, hr4⟩, hf1, hf2, hf3, hf4⟩ := hF
  obtain ⟨e5, hel⟩ := hT
  obtain ⟨hm0, hrg⟩ := hR
  have hpo : ob S p 4 := hp
  have l0 : inL 0 := by unfold inL; omega
  obtain ⟨⟨k0, k1⟩, k2, k3⟩ := hP
  obtain ⟨g1, g2, g3, g4⟩ := hel t h0 h1
  have hb := cmpP_b (hrg t h0 h1) hB
  refine wp_in (C := c_Points_compare) (ls := [some (pR h), some (pI t), some (pR p), none, none]) rfl rfl rfl rfl rfl ?_
  refine r_aload_n rfl rfl ?_
  refine r_getR rfl (by assumption) (by assumption) ?_
  refine r_iload_n rfl rfl ?_
  refine r_lald rfl (by assumption) (by omega) (by omega) ?_
  refine r_aload_n rfl rfl ?_
  refine r_getL rfl (by assumption) ?_
  refine r_lmul rfl ?_
  refine r_aload_n rfl rfl ?_
  refine r_getL rfl (by assumption) ?_
  refine r_aload_n rfl rfl ?_
  refine r_getR rfl (by assumption) (by assumption) ?_
  refine r_iload_n rfl rfl ?_
  refine r_lald rfl (by assumption) (by omega) (by omega) ?_
  refine r_lmul rfl ?_
  refine r_lsub rfl ?_
  rw [g1, g2, k0, k1]
  refine r_lstore_n rfl (Nat.le_of_ble_eq_true rfl) ?_
  refine r_lload_n rfl rfl ?_
  refine r_lconst rfl ?_
  refine r_l_eq rfl rfl (by unfold inL; omega) l0 (fun h19 => ?_) (fun h19 => ?_)
  · skip
    refine r_aload_n rfl rfl ?_
    refine r_getR rfl (by assumption) (by assumption) ?_
    refine r_iload_n rfl rfl ?_
    refine r_lald rfl (by assumption) (by omega) (by omega) ?_
    refine r_aload_n rfl rfl ?_
    refine r_getL rfl (by assumption) ?_
    refine r_lmul rfl ?_
    refine r_aload_n rfl rfl ?_
    refine r_getL rfl (by assumption) ?_
    refine r_aload_n rfl rfl ?_
    refine r_getR rfl (by assumption) (by assumption) ?_
    refine r_iload_n rfl rfl ?_
    refine r_lald rfl (by assumption) (by omega) (by omega) ?_
    refine r_lmul rfl ?_
    refine r_lsub rfl ?_
    refine r_lret rfl ?_
    unfold cmpP at hQ; rw [if_pos h19] at hQ; rw [g3, g4, k2, k3]; exact hQ
  · skip
    refine r_lload_n rfl rfl ?_
    refine r_goto rfl ?_
    refine r_lret rfl ?_
    unfold cmpP at hQ; rw [if_neg h19] at hQ; exact hQ
def skS (m : Int) (X XD Y YD : Int → Int) (x xd y yd : Int) : Int := fstN (fun t => decide (0 ≤ cmpP (X t) (XD t) (Y t) (YD t) x xd y yd)) m.toNat 0
theorem cmpP_in {X XD Y YD x xd y yd : Int} (hA : PB X XD Y YD) (hB : PB x xd y yd) : -2000000 ≤ cmpP X XD Y YD x xd y yd ∧ cmpP X XD Y YD x xd y yd ≤ 2000000 := by
  have := cmpP_b hA hB
  unfold cmpP; split <;> omega
theorem w_seek {X : PX} {d : Nat} {S : SS} {zI zL : ZM} {Q : PQ} {h N : Nat} {m : Int} {X0 XD Y YD : Int → Int} (hF : isPoints S h N) (hT : PsH zI zL h m X0 XD Y YD) (hR : PsR m X0 XD Y YD) (hm : m ≤ N) {p : Nat} {x xd y yd : Int} (hp : isPoint S p) (hP : PH zL p x xd y yd) (hB : PB x xd y yd) (hN : N ≤ 10000) (hQ : Q (some (pI (skS m X0 XD Y YD x xd y yd))) S zI zL) : wpM X (d + 2) fPoints_seek [pR h, pR p] S zI zL Q := by
  have hF0 := hF
  have hT0 := hT
  have hR0 := hR
  obtain ⟨hob, ⟨hr1, hr2, hr3, hr4⟩, hf1, hf2, hf3, hf4⟩ := hF
  obtain ⟨e5, hel⟩ := hT
  obtain ⟨hm0, hrg⟩ := hR
  have l0 : inL 0 := by unfold inL; omega
  have key : ∀ k : Int, k ≤ m → 0 ≤ k → fstN (fun t => decide (0 ≤ cmpP (X0 t) (XD t) (Y t) (YD t) x xd y yd)) (m - k).toNat k = skS m X0 XD Y YD x xd y yd → Run X (d + 1) c_Points_seek 2 [some (pR h), some (pR p), some (pI k)] [] S zI zL 0 0 Q := by
    refine loop_up _ m (fun k hk ih h0 hs => ?_)
    refine r_iload_n rfl rfl ?_
    refine r_aload_n rfl rfl ?_
    refine r_getI rfl (by assumption) ?_
    refine r_icmp_ge rfl (by unfold inI; omega) (by unfold inI; omega) (fun h5 => ?_) (fun h5 => ?_)
    · skip
      refine r_iload_n rfl rfl ?_
      refine r_iret rfl ?_
      rw [fstN_e (by omega)] at hs; rw [hs]; exact hQ
    · skip
      have hc := cmpP_in (hrg k h0 (by omega)) hB
      refine r_aload_n rfl rfl ?_
      refine r_iload_n rfl rfl ?_
      refine r_aload_n rfl rfl ?_
      refine r_cV3 rfl (by assumption) (Nat.le_of_ble_eq_true rfl) rfl rfl (w_compare hF0 hT0 hR0 hm hp hP hB h0 (by omega) ?_)
      refine r_lconst rfl ?_
      refine r_l_ge rfl rfl (by unfold inL; omega) l0 (fun h12 => ?_) (fun h12 => ?_)
      · skip
        refine r_iload_n rfl rfl ?_
        refine r_iret rfl ?_
        rw [fstN_hit (by omega) (by simp only [decide_eq_true_eq]; exact h12)] at hs; rw [hs]; exact hQ
      · skip
        refine r_iinc rfl rfl ?_
        refine r_goto rfl ?_
        exact ih (by omega) (by omega) (by rw [← fstN_miss (by omega) (by simp only [decide_eq_false_iff_not]; omega)]; exact hs)
  refine wp_in (C := c_Points_seek) (ls := [some (pR h), some (pR p), none]) rfl rfl rfl rfl rfl ?_
  refine r_iconst rfl ?_
  refine r_istore_n rfl (Nat.le_of_ble_eq_true rfl) ?_
  exact key 0 hm0 (Int.le_refl _) (by rw [Int.sub_zero]; rfl)
theorem w_stands {X : PX} {d : Nat} {S : SS} {zI zL : ZM} {Q : PQ} {h N : Nat} {m : Int} {X0 XD Y YD : Int → Int} (hF : isPoints S h N) (hT : PsH zI zL h m X0 XD Y YD) (hR : PsR m X0 XD Y YD) (hm : m ≤ N) {p : Nat} {x xd y yd : Int} (hp : isPoint S p) (hP : PH zL p x xd y yd) (hB : PB x xd y yd) {t : Int} (hN : N ≤ 10000) (h0 : 0 ≤ t) (h1 : t ≤ m) (hQ : Q (some (pI (if t < m ∧ cmpP (X0 t) (XD t) (Y t) (YD t) x xd y yd = 0 then 1 else 0))) S zI zL) : wpM X (d + 2) fPoints_stands [pR h, pI t, pR p] S zI zL Q := by
  have hF0 := hF
  have hT0 := hT
  have hR0 := hR
  obtain ⟨hob, ⟨hr1, hr2, hr3, hr4⟩, hf1, hf2, hf3, hf4⟩ := hF
  obtain ⟨e5, hel⟩ := hT
  obtain ⟨hm0, hrg⟩ := hR
  have l0 : inL 0 := by unfold inL; omega
  refine wp_in (C := c_Points_stands) (ls := [some (pR h), some (pI t), some (pR p)]) rfl rfl rfl rfl rfl ?_
  refine r_iload_n rfl rfl ?_
  refine r_aload_n rfl rfl ?_
  refine r_getI rfl (by assumption) ?_
  refine r_icmp_ge rfl (by unfold inI; omega) (by unfold inI; omega) (fun h3 => ?_) (fun h3 => ?_)
  · skip
    refine r_iconst rfl ?_
    refine r_zret rfl (by first | exact Or.inl rfl | exact Or.inr rfl) ?_
    rw [if_neg (by omega)] at hQ; exact hQ
  · skip
    have hc := cmpP_in (hrg t h0 (by omega)) hB
    refine r_aload_n rfl rfl ?_
    refine r_iload_n rfl rfl ?_
    refine r_aload_n rfl rfl ?_
    refine r_cV3 rfl (by assumption) (Nat.le_of_ble_eq_true rfl) rfl rfl (w_compare hF0 hT0 hR0 hm hp hP hB h0 (by omega) ?_)
    refine r_lconst rfl ?_
    refine r_l_ne rfl rfl (by unfold inL; omega) l0 (fun h10 => ?_) (fun h10 => ?_)
    · skip
      refine r_iconst rfl ?_
      refine r_zret rfl (by first | exact Or.inl rfl | exact Or.inr rfl) ?_
      rw [if_neg (fun q => h10 q.2)] at hQ; exact hQ
    · skip
      refine r_iconst rfl ?_
      refine r_goto rfl ?_
      refine r_zret rfl (by first | exact Or.inl rfl | exact Or.inr rfl) ?_
      rw [if_pos ⟨by omega, h10⟩] at hQ; exact hQ
/-- a point let in -/
def insP (zL zL' : ZM) (h : Nat) (m : Int) (X XD Y YD : Int → Int) (t x xd y yd : Int) : Prop := (∀ c, c ≠ h + 1 → c ≠ h + 2 → c ≠ h + 3 → c ≠ h + 4 → zL' c = zL c) ∧
  ∀ k, 0 ≤ k → k < m + 1 → zL' (h + 1) k = insF X t x k ∧ zL' (h + 2) k = insF XD t xd k ∧ zL' (h + 3) k = insF Y t y k ∧ zL' (h + 4) k = insF YD t yd k
def slL (z : ZM) (h : Nat) (t n : Int) : ZM := fun c k => if (c = h + 1 ∨ c = h + 2 ∨ c = h + 3 ∨ c = h + 4) ∧ t + 1 ≤ k ∧ k < t + 1 + n then z c (t + (k - (t + 1))) else z c k
theorem cp_row {z : ZM} {h c : Nat} {sp dp n : Int} : zrow z h (cpI (z h) (z h) sp dp n) c = if c = h then cpI (z h) (z h) sp dp n else z c := by
  funext k; unfold zrow; split <;> rfl
set_option maxHeartbeats 4000000 in
theorem ins_post {z : ZM} {h : Nat} {m t x xd y yd : Int} {X XD Y YD : Int → Int} (hel : ∀ k, 0 ≤ k → k < m → z (h + 1) k = X k ∧ z (h + 2) k = XD k ∧ z (h + 3) k = Y k ∧ z (h + 4) k = YD k) (h0 : 0 ≤ t) (h1 : t ≤ m) :
    insP z (zput (zput (zput (zput (slL z h t (m - t)) (h + 1) t x) (h + 2) t xd) (h + 3) t y) (h + 4) t yd) h m X XD Y YD t x xd y yd := by
  refine ⟨fun c c1 c2 c3 c4 => ?_, fun k k0 k1 => ?_⟩
  · funext k; unfold zput slL; simp (disch := omega) only [if_pos, if_neg, ↓reduceIte, true_and, and_true, true_or, or_true, and_self]
  · unfold zput slL insF
    rcases Int.lt_trichotomy k t with e | e | e
    · obtain ⟨g1, g2, g3, g4⟩ := hel k k0 (by omega)
      simp (disch := omega) only [if_pos, if_neg, ↓reduceIte, true_and, and_true, true_or, or_true, and_self]
      exact ⟨g1, g2, g3, g4⟩
    · subst e
      simp (disch := omega) only [if_pos, if_neg, ↓reduceIte, true_and, and_true, true_or, or_true, and_self]
    · obtain ⟨g1, g2, g3, g4⟩ := hel (k - 1) (by omega) (by omega)
      simp (disch := omega) only [if_pos, if_neg, ↓reduceIte, true_and, and_true, true_or, or_true, and_self]
      rw [show t + (k - (t + 1)) = k - 1 by omega]
      exact ⟨g1, g2, g3, g4⟩
/-- the same stretch of one row moved up by one -/
def sl1 (z : ZM) (a : Nat) (t n : Int) : ZM := zrow z a (cpI (z a) (z a) t (t + 1) n)
set_option maxHeartbeats 4000000 in
theorem sl1_4 (z : ZM) (h : Nat) (t n : Int) : sl1 (sl1 (sl1 (sl1 z (h + 1) t n) (h + 2) t n) (h + 3) t n) (h + 4) t n = slL z h t n := by
  funext c k
  unfold sl1 zrow slL cpI
  by_cases h4 : c = h + 4
  · subst h4
    by_cases hk : t + 1 ≤ k ∧ k < t + 1 + n <;> simp (disch := omega) only [if_pos, if_neg, ↓reduceIte, true_and, and_true, true_or, or_true, and_self]
  · by_cases h3 : c = h + 3
    · subst h3
      by_cases hk : t + 1 ≤ k ∧ k < t + 1 + n <;> simp (disch := omega) only [if_pos, if_neg, ↓reduceIte, true_and, and_true, true_or, or_true, and_self]
    · by_cases h2 : c = h + 2
      · subst h2
        by_cases hk : t + 1 ≤ k ∧ k < t + 1 + n <;> simp (disch := omega) only [if_pos, if_neg, ↓reduceIte, true_and, and_true, true_or, or_true, and_self]
      · by_cases h1 : c = h + 1
        · subst h1
          by_cases hk : t + 1 ≤ k ∧ k < t + 1 + n <;> simp (disch := omega) only [if_pos, if_neg, ↓reduceIte, true_and, and_true, true_or, or_true, and_self]
        · simp (disch := omega) only [if_pos, if_neg, ↓reduceIte, true_and, and_true, true_or, or_true, and_self]
theorem w_insert {X : PX} {d : Nat} {S : SS} {zI zL : ZM} {Q : PQ} {h N : Nat} {m : Int} {X0 XD Y YD : Int → Int} (hF : isPoints S h N) (hT : PsH zI zL h m X0 XD Y YD) (hR : PsR m X0 XD Y YD) (hm : m ≤ N) {p : Nat} {x xd y yd : Int} (hp : isPoint S p) (hP : PH zL p x xd y yd) (hph : p < h + 1 ∨ h + 4 < p) (hN : N ≤ 10000) (hmost : zI h 4 = N) {t : Int} (h0 : 0 ≤ t) (h1 : t ≤ m) (hQ0 : m = N → Q (some (pI 0)) S zI zL) (hQ1 : m < N → ∀ z, insP zL z h m X0 XD Y YD t x xd y yd → Q (some (pI 1)) S (zput zI h 5 (m + 1)) z) : wpM X (d + 1) fPoints_insert [pR h, pI t, pR p] S zI zL Q := by
  obtain ⟨hob, ⟨hr1, hr2, hr3, hr4⟩, hf1, hf2, hf3, hf4⟩ := hF
  obtain ⟨e5, hel⟩ := hT
  obtain ⟨hm0, hrg⟩ := hR
  have hpo : ob S p 4 := hp
  obtain ⟨⟨k0, k1⟩, k2, k3⟩ := hP
  have epo : ∀ z : ZM, (∀ c, c ≠ h + 1 → c ≠ h + 2 → c ≠ h + 3 → c ≠ h + 4 → z c = zL c) → z p = zL p := fun z hz => hz p (by omega) (by omega) (by omega) (by omega)
  have f4 : ∀ c, c ≠ h + 1 → c ≠ h + 2 → c ≠ h + 3 → c ≠ h + 4 → slL zL h t (m - t) c = zL c := fun c c1 c2 c3 c4 => by funext k; unfold slL; simp (disch := omega) only [if_pos, if_neg, ↓reduceIte, true_and, and_true, true_or, or_true, and_self]
  refine wp_in (C := c_Points_insert) (ls := [some (pR h), some (pI t), some (pR p), none]) rfl rfl rfl rfl rfl ?_
  refine r_aload_n rfl rfl ?_
  refine r_getI rfl (by assumption) ?_
  refine r_aload_n rfl rfl ?_
  refine r_getI rfl (by assumption) ?_
  refine r_icmp_ge rfl (by unfold inI; omega) (by unfold inI; omega) (fun h4 => ?_) (fun h4 => ?_)
  · skip
    refine r_iconst rfl ?_
    refine r_zret rfl (by first | exact Or.inl rfl | exact Or.inr rfl) ?_
    exact hQ0 (by omega)
  · skip
    refine r_iload_n rfl rfl ?_
    refine r_aload_n rfl rfl ?_
    refine r_getI rfl (by assumption) ?_
    refine r_icmp_le rfl (by unfold inI; omega) (by unfold inI; omega) (fun h8 => ?_) (fun h8 => ?_)
    · skip
      refine r_aload_n rfl rfl ?_
      refine r_getI rfl (by assumption) ?_
      refine r_iload_n rfl rfl ?_
      refine r_isub rfl ?_
      refine r_istore_n rfl (Nat.le_of_ble_eq_true rfl) ?_
      refine r_aload_n rfl rfl ?_
      refine r_getR rfl (by assumption) (by assumption) ?_
      refine r_iload_n rfl rfl ?_
      refine r_aload_n rfl rfl ?_
      refine r_getR rfl (by assumption) (by assumption) ?_
      refine r_iload_n rfl rfl ?_
      refine r_iconst rfl ?_
      refine r_iadd rfl ?_
      refine r_iload_n rfl rfl ?_
      refine r_acopyL rfl hr1 hr1 (Nat.le_of_ble_eq_true rfl) (by omega) (by omega) (by omega) (by omega) (by omega) ?_
      refine r_aload_n rfl rfl ?_
      refine r_getR rfl (by assumption) (by assumption) ?_
      refine r_iload_n rfl rfl ?_
      refine r_aload_n rfl rfl ?_
      refine r_getR rfl (by assumption) (by assumption) ?_
      refine r_iload_n rfl rfl ?_
      refine r_iconst rfl ?_
      refine r_iadd rfl ?_
      refine r_iload_n rfl rfl ?_
      refine r_acopyL rfl hr2 hr2 (Nat.le_of_ble_eq_true rfl) (by omega) (by omega) (by omega) (by omega) (by omega) ?_
      refine r_aload_n rfl rfl ?_
      refine r_getR rfl (by assumption) (by assumption) ?_
      refine r_iload_n rfl rfl ?_
      refine r_aload_n rfl rfl ?_
      refine r_getR rfl (by assumption) (by assumption) ?_
      refine r_iload_n rfl rfl ?_
      refine r_iconst rfl ?_
      refine r_iadd rfl ?_
      refine r_iload_n rfl rfl ?_
      refine r_acopyL rfl hr3 hr3 (Nat.le_of_ble_eq_true rfl) (by omega) (by omega) (by omega) (by omega) (by omega) ?_
      refine r_aload_n rfl rfl ?_
      refine r_getR rfl (by assumption) (by assumption) ?_
      refine r_iload_n rfl rfl ?_
      refine r_aload_n rfl rfl ?_
      refine r_getR rfl (by assumption) (by assumption) ?_
      refine r_iload_n rfl rfl ?_
      refine r_iconst rfl ?_
      refine r_iadd rfl ?_
      refine r_iload_n rfl rfl ?_
      refine r_acopyL rfl hr4 hr4 (Nat.le_of_ble_eq_true rfl) (by omega) (by omega) (by omega) (by omega) (by omega) ?_
      have e4 := sl1_4 zL h t (m - t)
      unfold sl1 at e4
      rw [e5, e4]
      refine r_aload_n rfl rfl ?_
      refine r_getR rfl (by assumption) (by assumption) ?_
      refine r_iload_n rfl rfl ?_
      refine r_aload_n rfl rfl ?_
      refine r_getL rfl (by assumption) ?_
      rw [epo _ f4, k0]
      refine r_last rfl (by assumption) (by omega) (by omega) ?_
      refine r_aload_n rfl rfl ?_
      refine r_getR rfl (by assumption) (by assumption) ?_
      refine r_iload_n rfl rfl ?_
      refine r_aload_n rfl rfl ?_
      refine r_getL rfl (by assumption) ?_
      rw [zput_row (by omega), epo _ f4, k1]
      refine r_last rfl (by assumption) (by omega) (by omega) ?_
      refine r_aload_n rfl rfl ?_
      refine r_getR rfl (by assumption) (by assumption) ?_
      refine r_iload_n rfl rfl ?_
      refine r_aload_n rfl rfl ?_
      refine r_getL rfl (by assumption) ?_
      rw [zput_row (by omega), zput_row (by omega), epo _ f4, k2]
      refine r_last rfl (by assumption) (by omega) (by omega) ?_
      refine r_aload_n rfl rfl ?_
      refine r_getR rfl (by assumption) (by assumption) ?_
      refine r_iload_n rfl rfl ?_
      refine r_aload_n rfl rfl ?_
      refine r_getL rfl (by assumption) ?_
      rw [zput_row (by omega), zput_row (by omega), zput_row (by omega), epo _ f4, k3]
      refine r_last rfl (by assumption) (by omega) (by omega) ?_
      refine r_aload_n rfl rfl ?_
      refine r_dupR rfl ?_
      refine r_getI rfl (by assumption) ?_
      refine r_iconst rfl ?_
      refine r_iadd rfl ?_
      refine r_putI rfl (by assumption) ?_
      refine r_iconst rfl ?_
      refine r_zret rfl (by first | exact Or.inl rfl | exact Or.inr rfl) ?_
      rw [e5]; exact hQ1 (by omega) _ (ins_post hel h0 h1)
    · skip
      refine r_iconst rfl ?_
      refine r_zret rfl (by first | exact Or.inl rfl | exact Or.inr rfl) ?_
      exact absurd h8 (by omega)
