/-! GEOMETRY: along an edge each meet takes a step of the slope of its own -/
theorem eq_pos {D S rm tm rl tl Dc Sc : Int} (hm : D * rm + S * tm = 0) (c : 0 < tm) (g1 : 0 ≤ D * rl + S * tl) (l2 : 0 < tl) (p2 : rl * tm ≤ rm * tl) (c2 : Dc * rl + Sc * tl = 0) (dc : 0 < Dc) (hD : 0 < D) : S * Dc = Sc * D := by
  have e2 : tm * (D * rl + S * tl) = D * (rl * tm - rm * tl) + (D * rm + S * tm) * tl := by grind
  rw [hm, Int.zero_mul, Int.add_zero] at e2
  have g3 := Int.mul_nonneg (Int.le_of_lt hD) (show 0 ≤ -(rl * tm - rm * tl) by omega)
  rw [Int.mul_neg] at g3
  have g4 := Int.mul_nonneg (Int.le_of_lt c) g1
  have z : D * rl + S * tl = 0 := by rcases Int.mul_eq_zero.mp (show tm * (D * rl + S * tl) = 0 by omega) with k | k; omega; exact k
  have e3 : tl * (S * Dc - Sc * D) = Dc * (D * rl + S * tl) - D * (Dc * rl + Sc * tl) := by grind
  rw [z, c2, Int.mul_zero, Int.mul_zero, Int.sub_self] at e3
  rcases Int.mul_eq_zero.mp e3 with k | k <;> omega
theorem eq_neg {D S rm tm rl tl Dc Sc : Int} (hm : D * rm + S * tm = 0) (c : tm < 0) (g1 : 0 ≤ D * rl + S * tl) (l2 : tl < 0) (p2 : -(rl * tm) ≤ -(rm * tl)) (c2 : Dc * rl + Sc * tl = 0) (dc : 0 < Dc) (hD : 0 < D) : S * Dc = Sc * D := by
  have := eq_pos (D := D) (S := -S) (rm := rm) (tm := -tm) (rl := rl) (tl := -tl) (Dc := Dc) (Sc := -Sc) (by rw [Int.neg_mul_neg]; exact hm) (by omega) (by rw [Int.neg_mul_neg]; exact g1) (by omega) (by rw [Int.mul_neg, Int.mul_neg]; exact p2) (by rw [Int.neg_mul_neg]; exact c2) dc hD
  rw [Int.neg_mul, Int.neg_mul] at this
  omega
section HT
variable {n : Int} {I J V : Int → Int} {n2 : Int} {I2 J2 V2 : Int → Int}
/-- the slope of a place along the edge of a and b -/
abbrev slp (I J : Int → Int) (a b : Int) (I2 J2 : Int → Int) (k : Int) : Int := (I b - I a) * J2 k - (J b - J a) * I2 k
theorem tau {a b x xd y yd : Int} (h : wP I J V x xd y yd b = wP I J V x xd y yd a) (k m : Int) : ((I b - I a) * (I b - I a) + (J b - J a) * (J b - J a)) * (wP I2 J2 V2 x xd y yd k - wP I2 J2 V2 x xd y yd m) = alg (I b - I a) (J b - J a) x xd y yd * (slp I J a b I2 J2 k - slp I J a b I2 J2 m) + xd * yd * (((I b - I a) * (I b - I a) + (J b - J a) * (J b - J a)) * (V2 k - V2 m) - (V b - V a) * ((I b - I a) * (I2 k - I2 m) + (J b - J a) * (J2 k - J2 m))) := by
  have e : ((I b - I a) * (I b - I a) + (J b - J a) * (J b - J a)) * (wP I2 J2 V2 x xd y yd k - wP I2 J2 V2 x xd y yd m) = alg (I b - I a) (J b - J a) x xd y yd * (slp I J a b I2 J2 k - slp I J a b I2 J2 m) + xd * yd * (((I b - I a) * (I b - I a) + (J b - J a) * (J b - J a)) * (V2 k - V2 m) - (V b - V a) * ((I b - I a) * (I2 k - I2 m) + (J b - J a) * (J2 k - J2 m))) + ((I b - I a) * (I2 k - I2 m) + (J b - J a) * (J2 k - J2 m)) * (wP I J V x xd y yd b - wP I J V x xd y yd a) := by unfold wP wv slp alg; grind
  rw [h, Int.sub_self, Int.mul_zero, Int.add_zero] at e
  exact e
theorem mono {a b x xd y yd x' xd' y' yd' k m : Int} (nn : 0 < (I b - I a) * (I b - I a) + (J b - J a) * (J b - J a)) (hD : 0 < xd * yd) (hD' : 0 < xd' * yd') (h : wP I J V x xd y yd b = wP I J V x xd y yd a) (h' : wP I J V x' xd' y' yd' b = wP I J V x' xd' y' yd' a) (hk : MinP n2 I2 J2 V2 x xd y yd k) (hm : MinP n2 I2 J2 V2 x' xd' y' yd' m) (hlt : alg (I b - I a) (J b - J a) x xd y yd * (xd' * yd') < alg (I b - I a) (J b - J a) x' xd' y' yd' * (xd * yd)) : slp I J a b I2 J2 m ≤ slp I J a b I2 J2 k := by
  have e1 := tau (I2 := I2) (J2 := J2) (V2 := V2) h m k
  have e2 := tau (I2 := I2) (J2 := J2) (V2 := V2) h' k m
  have g1 := Int.mul_nonneg (Int.le_of_lt hD') (Int.mul_nonneg (Int.le_of_lt nn) (show 0 ≤ wP I2 J2 V2 x xd y yd m - wP I2 J2 V2 x xd y yd k by have := hk.2 m hm.1.1 hm.1.2; omega))
  have g2 := Int.mul_nonneg (Int.le_of_lt hD) (Int.mul_nonneg (Int.le_of_lt nn) (show 0 ≤ wP I2 J2 V2 x' xd' y' yd' k - wP I2 J2 V2 x' xd' y' yd' m by have := hm.2 k hk.1.1 hk.1.2; omega))
  rw [e1] at g1
  rw [e2] at g2
  generalize alg (I b - I a) (J b - J a) x xd y yd = S at *
  generalize alg (I b - I a) (J b - J a) x' xd' y' yd' = S' at *
  generalize xd * yd = D at *
  generalize xd' * yd' = D' at *
  generalize slp I J a b I2 J2 k = sk at *
  generalize slp I J a b I2 J2 m = sm at *
  have key : D' * (S * (sm - sk) + D * (((I b - I a) * (I b - I a) + (J b - J a) * (J b - J a)) * (V2 m - V2 k) - (V b - V a) * ((I b - I a) * (I2 m - I2 k) + (J b - J a) * (J2 m - J2 k)))) + D * (S' * (sk - sm) + D' * (((I b - I a) * (I b - I a) + (J b - J a) * (J b - J a)) * (V2 k - V2 m) - (V b - V a) * ((I b - I a) * (I2 k - I2 m) + (J b - J a) * (J2 k - J2 m)))) = (S' * D - S * D') * (sk - sm) := by grind
  have := Int.nonneg_of_mul_nonneg_right (show 0 ≤ (S' * D - S * D') * (sk - sm) by omega) (by omega)
  omega
theorem same {a b x xd y yd x' xd' y' yd' k : Int} (nn : 0 < (I b - I a) * (I b - I a) + (J b - J a) * (J b - J a)) (hD : 0 < xd * yd) (hD' : 0 < xd' * yd') (h : wP I J V x xd y yd b = wP I J V x xd y yd a) (h' : wP I J V x' xd' y' yd' b = wP I J V x' xd' y' yd' a) (heq : alg (I b - I a) (J b - J a) x xd y yd * (xd' * yd') = alg (I b - I a) (J b - J a) x' xd' y' yd' * (xd * yd)) (hk : MinP n2 I2 J2 V2 x xd y yd k) : MinP n2 I2 J2 V2 x' xd' y' yd' k := by
  refine ⟨hk.1, fun j j0 j1 => ?_⟩
  have e1 := tau (I2 := I2) (J2 := J2) (V2 := V2) h j k
  have e2 := tau (I2 := I2) (J2 := J2) (V2 := V2) h' j k
  have g1 := Int.mul_nonneg (Int.le_of_lt hD') (Int.mul_nonneg (Int.le_of_lt nn) (show 0 ≤ wP I2 J2 V2 x xd y yd j - wP I2 J2 V2 x xd y yd k by have := hk.2 j j0 j1; omega))
  rw [e1] at g1
  generalize alg (I b - I a) (J b - J a) x xd y yd = S at *
  generalize alg (I b - I a) (J b - J a) x' xd' y' yd' = S' at *
  generalize hd : xd * yd = D at *
  generalize hd' : xd' * yd' = D' at *
  generalize slp I J a b I2 J2 k = sk at *
  generalize slp I J a b I2 J2 j = sj at *
  generalize ((I b - I a) * (I b - I a) + (J b - J a) * (J b - J a)) * (V2 j - V2 k) - (V b - V a) * ((I b - I a) * (I2 j - I2 k) + (J b - J a) * (J2 j - J2 k)) = C at *
  have key : D' * (S * (sj - sk) + D * C) = D * (S' * (sj - sk) + D' * C) := by
    have : D' * (S * (sj - sk) + D * C) = (S * D') * (sj - sk) + D' * D * C := by grind
    rw [this, heq]; grind
  rw [key, ← e2] at g1
  have := Int.nonneg_of_mul_nonneg_right (Int.nonneg_of_mul_nonneg_right g1 hD) nn
  omega
theorem cnt_min {x xd y yd a b : Int} (ha : MinP n I J V x xd y yd a) (hb : MinP n I J V x xd y yd b) (hab : a < b) : 2 ≤ countS n I J V x xd y yd := by
  have la := (least_iff ha.1).mpr ha.2
  have lb := (least_iff hb.1).mpr hb.2
  exact cnt_2 (p := fun t => decide (wv (I t) (J t) (V t) x xd y yd = leastS n I J V x xd y yd)) n.toNat 0 a b ha.1.1 hab (by have := hb.1.2; omega) (decide_eq_true la) (decide_eq_true lb)
/-- what holds at a meet -/
def HitP (n : Int) (I J V : Int → Int) (n2 : Int) (I2 J2 V2 : Int → Int) (e o : EE) (x xd y yd : Int) : Prop := 0 < xd * yd ∧ MinP n I J V x xd y yd e.1 ∧ MinP n I J V x xd y yd e.2.1 ∧ MinP n2 I2 J2 V2 x xd y yd o.1 ∧ MinP n2 I2 J2 V2 x xd y yd o.2.1 ∧ xD I J e I2 J2 o ≠ 0
theorem hit_of {e o : EE} (hR : FR n I J V) (hS : FS n I J) (hR2 : FR n2 I2 J2 V2) (hS2 : FS n2 I2 J2) (he : edOK n I J V e) (ho : edOK n2 I2 J2 V2 o) (h : mHit n I J V n2 I2 J2 V2 e o) : HitP n I J V n2 I2 J2 V2 e o (mqX I J V e I2 J2 V2 o) (mqXD I J V e I2 J2 V2 o) (mqY I J V e I2 J2 V2 o) (mqYD I J V e I2 J2 V2 o) := by
  obtain ⟨k1, k2, k3⟩ := h
  have hPB := m_PB hR hR2 he ho k1
  obtain ⟨q1, q2⟩ := mq_on (V := V) (V2 := V2) k1
  obtain ⟨e0, e1, e2, e3⟩ := he
  obtain ⟨o0, o1, o2, o3⟩ := ho
  have ma : MinP n I J V (mqX I J V e I2 J2 V2 o) (mqXD I J V e I2 J2 V2 o) (mqY I J V e I2 J2 V2 o) (mqYD I J V e I2 J2 V2 o) e.1 := ⟨⟨e0, by omega⟩, (least_iff ⟨e0, by omega⟩).mp k2⟩
  have mo : MinP n2 I2 J2 V2 (mqX I J V e I2 J2 V2 o) (mqXD I J V e I2 J2 V2 o) (mqY I J V e I2 J2 V2 o) (mqYD I J V e I2 J2 V2 o) o.1 := ⟨⟨o0, by omega⟩, (least_iff ⟨o0, by omega⟩).mp k3⟩
  refine ⟨Int.mul_pos (show 0 < mqXD I J V e I2 J2 V2 o by have := hPB.1; omega) (show 0 < mqYD I J V e I2 J2 V2 o by have := hPB.2; omega), ma, ⟨⟨by omega, e2⟩, fun k k0 k1 => by rw [q1]; exact ma.2 k k0 k1⟩, mo, ⟨⟨by omega, o2⟩, fun k k0 k1 => by rw [q2]; exact mo.2 k k0 k1⟩, k1⟩
/-- at the first end the slope is no less, at the last no greater -/
theorem hit_lo {e o : EE} {x xd y yd β : Int} (hR : FR n I J V) (hS : FS n I J) (hS2 : FS n2 I2 J2) (he : edOK n I J V e) (ho : edOK n2 I2 J2 V2 o) (hc : clE n2 I2 J2 V2 I J V e) (h : HitP n I J V n2 I2 J2 V2 e o x xd y yd) (hl : e.2.2.1 ≠ -1) (hβ : MinP n2 I2 J2 V2 (cpX I J V e.1 e.2.1 e.2.2.1) (cpXD I J V e.1 e.2.1 e.2.2.1) (cpY I J V e.1 e.2.1 e.2.2.1) (cpYD I J V e.1 e.2.1 e.2.2.1) β) : slp I J e.1 e.2.1 I2 J2 o.1 ≤ slp I J e.1 e.2.1 I2 J2 β ∧ slp I J e.1 e.2.1 I2 J2 o.2.1 ≤ slp I J e.1 e.2.1 I2 J2 β := by
  obtain ⟨hD, ma, mb, mo, mo2, -⟩ := h
  obtain ⟨e0, e1, e2, e3⟩ := he
  obtain ⟨o1, -⟩ := stF_ok hR.1 e3
  obtain ⟨l0, l1, l2⟩ : 0 ≤ e.2.2.1 ∧ e.2.2.1 < n ∧ 0 < trE I J e.1 e.2.1 e.2.2.1 := by rcases o1 with k | k; exact absurd k hl; exact k
  have nn := pq_pos (hS e.1 e.2.1 e0 e1 e2)
  have hQ := min_eq mb ma
  obtain ⟨c1, -⟩ := cn_ln (V := V) hR ⟨e0, Int.lt_trans e1 e2⟩ ⟨by omega, e2⟩ ⟨l0, l1⟩ (by omega)
  have dc := cp_pos (V := V) hR ⟨e0, Int.lt_trans e1 e2⟩ ⟨by omega, e2⟩ ⟨l0, l1⟩ (show trE I J e.1 e.2.1 e.2.2.1 ≠ 0 by omega)
  have sd := (cn_side hR hS e0 e1 e2 ⟨l0, l1⟩ (by omega) hD hQ).1 l2
  have wl := ma.2 e.2.2.1 l0 l1
  rcases (show alg (I e.2.1 - I e.1) (J e.2.1 - J e.1) (cpX I J V e.1 e.2.1 e.2.2.1) (cpXD I J V e.1 e.2.1 e.2.2.1) (cpY I J V e.1 e.2.1 e.2.2.1) (cpYD I J V e.1 e.2.1 e.2.2.1) * (xd * yd) < alg (I e.2.1 - I e.1) (J e.2.1 - J e.1) x xd y yd * (cpXD I J V e.1 e.2.1 e.2.2.1 * cpYD I J V e.1 e.2.1 e.2.2.1) ∨ alg (I e.2.1 - I e.1) (J e.2.1 - J e.1) x xd y yd * (cpXD I J V e.1 e.2.1 e.2.2.1 * cpYD I J V e.1 e.2.1 e.2.2.1) = alg (I e.2.1 - I e.1) (J e.2.1 - J e.1) (cpX I J V e.1 e.2.1 e.2.2.1) (cpXD I J V e.1 e.2.1 e.2.2.1) (cpY I J V e.1 e.2.1 e.2.2.1) (cpYD I J V e.1 e.2.1 e.2.2.1) * (xd * yd) ∨ alg (I e.2.1 - I e.1) (J e.2.1 - J e.1) x xd y yd * (cpXD I J V e.1 e.2.1 e.2.2.1 * cpYD I J V e.1 e.2.1 e.2.2.1) < alg (I e.2.1 - I e.1) (J e.2.1 - J e.1) (cpX I J V e.1 e.2.1 e.2.2.1) (cpXD I J V e.1 e.2.1 e.2.2.1) (cpY I J V e.1 e.2.1 e.2.2.1) (cpYD I J V e.1 e.2.1 e.2.2.1) * (xd * yd) by omega) with q | q | q
  · exact ⟨mono nn dc hD c1 hQ hβ mo q, mono nn dc hD c1 hQ hβ mo2 q⟩
  · have x1 := same nn hD dc hQ c1 q mo
    have x2 := same nn hD dc hQ c1 q mo2
    have := cnt_min x1 x2 ho.2.1
    have := hc.1 hl
    omega
  · have := sd.mp q; omega
theorem hit_hi {e o : EE} {x xd y yd β : Int} (hR : FR n I J V) (hS : FS n I J) (hS2 : FS n2 I2 J2) (he : edOK n I J V e) (ho : edOK n2 I2 J2 V2 o) (hc : clE n2 I2 J2 V2 I J V e) (h : HitP n I J V n2 I2 J2 V2 e o x xd y yd) (hl : e.2.2.2 ≠ -1) (hβ : MinP n2 I2 J2 V2 (cpX I J V e.1 e.2.1 e.2.2.2) (cpXD I J V e.1 e.2.1 e.2.2.2) (cpY I J V e.1 e.2.1 e.2.2.2) (cpYD I J V e.1 e.2.1 e.2.2.2) β) : slp I J e.1 e.2.1 I2 J2 β ≤ slp I J e.1 e.2.1 I2 J2 o.1 ∧ slp I J e.1 e.2.1 I2 J2 β ≤ slp I J e.1 e.2.1 I2 J2 o.2.1 := by
  obtain ⟨hD, ma, mb, mo, mo2, -⟩ := h
  obtain ⟨e0, e1, e2, e3⟩ := he
  obtain ⟨-, o1⟩ := stF_ok hR.1 e3
  obtain ⟨l0, l1, l2⟩ : 0 ≤ e.2.2.2 ∧ e.2.2.2 < n ∧ trE I J e.1 e.2.1 e.2.2.2 < 0 := by rcases o1 with k | k; exact absurd k hl; exact k
  have nn := pq_pos (hS e.1 e.2.1 e0 e1 e2)
  have hQ := min_eq mb ma
  obtain ⟨c1, -⟩ := cn_ln (V := V) hR ⟨e0, Int.lt_trans e1 e2⟩ ⟨by omega, e2⟩ ⟨l0, l1⟩ (by omega)
  have dc := cp_pos (V := V) hR ⟨e0, Int.lt_trans e1 e2⟩ ⟨by omega, e2⟩ ⟨l0, l1⟩ (show trE I J e.1 e.2.1 e.2.2.2 ≠ 0 by omega)
  have sd := (cn_side hR hS e0 e1 e2 ⟨l0, l1⟩ (by omega) hD hQ).2 l2
  have wl := ma.2 e.2.2.2 l0 l1
  rcases (show alg (I e.2.1 - I e.1) (J e.2.1 - J e.1) x xd y yd * (cpXD I J V e.1 e.2.1 e.2.2.2 * cpYD I J V e.1 e.2.1 e.2.2.2) < alg (I e.2.1 - I e.1) (J e.2.1 - J e.1) (cpX I J V e.1 e.2.1 e.2.2.2) (cpXD I J V e.1 e.2.1 e.2.2.2) (cpY I J V e.1 e.2.1 e.2.2.2) (cpYD I J V e.1 e.2.1 e.2.2.2) * (xd * yd) ∨ alg (I e.2.1 - I e.1) (J e.2.1 - J e.1) x xd y yd * (cpXD I J V e.1 e.2.1 e.2.2.2 * cpYD I J V e.1 e.2.1 e.2.2.2) = alg (I e.2.1 - I e.1) (J e.2.1 - J e.1) (cpX I J V e.1 e.2.1 e.2.2.2) (cpXD I J V e.1 e.2.1 e.2.2.2) (cpY I J V e.1 e.2.1 e.2.2.2) (cpYD I J V e.1 e.2.1 e.2.2.2) * (xd * yd) ∨ alg (I e.2.1 - I e.1) (J e.2.1 - J e.1) (cpX I J V e.1 e.2.1 e.2.2.2) (cpXD I J V e.1 e.2.1 e.2.2.2) (cpY I J V e.1 e.2.1 e.2.2.2) (cpYD I J V e.1 e.2.1 e.2.2.2) * (xd * yd) < alg (I e.2.1 - I e.1) (J e.2.1 - J e.1) x xd y yd * (cpXD I J V e.1 e.2.1 e.2.2.2 * cpYD I J V e.1 e.2.1 e.2.2.2) by omega) with q | q | q
  · exact ⟨mono nn hD dc hQ c1 mo hβ q, mono nn hD dc hQ c1 mo2 hβ q⟩
  · have x1 := same nn hD dc hQ c1 q mo
    have x2 := same nn hD dc hQ c1 q mo2
    have := cnt_min x1 x2 ho.2.1
    have := hc.2 hl
    omega
  · have := sd.mp q; omega
/-- at a meet the other's least terms lie on the line of its edge -/
theorem hit_col {e o : EE} {x xd y yd m : Int} (hR2 : FR n2 I2 J2 V2) (hS2 : FS n2 I2 J2) (he : edOK n I J V e) (ho : edOK n2 I2 J2 V2 o) (hc : clE n I J V I2 J2 V2 o) (h : HitP n I J V n2 I2 J2 V2 e o x xd y yd) (hm : MinP n2 I2 J2 V2 x xd y yd m) : o.1 ≤ m ∧ m ≤ o.2.1 := by
  obtain ⟨hD, ma, mb, mo, mo2, -⟩ := h
  obtain ⟨e0, e1, e2, e3⟩ := he
  obtain ⟨o0, o1, o2, o3⟩ := ho
  have nn := pq_pos (hS2 o.1 o.2.1 o0 o1 o2)
  have hQ := min_eq mo2 mo
  have zm := ln_eq hQ m
  rw [min_eq hm mo, Int.sub_self, Int.mul_zero] at zm
  obtain ⟨⟨a1, a2⟩, ⟨b1, b2⟩, hbd, -⟩ := stF_max hR2.1 o3
  obtain ⟨s1, s2⟩ := stF_ok hR2.1 o3
  rcases (show 0 < trE I2 J2 o.1 o.2.1 m ∨ trE I2 J2 o.1 o.2.1 m = 0 ∨ trE I2 J2 o.1 o.2.1 m < 0 by omega) with c | c | c
  · exfalso
    obtain ⟨p1, p2⟩ := a2 m hm.1.1 hm.1.2 c
    obtain ⟨l0, l1, l2⟩ : 0 ≤ o.2.2.1 ∧ o.2.2.1 < n2 ∧ 0 < trE I2 J2 o.1 o.2.1 o.2.2.1 := by rcases s1 with k | k; exact absurd k p1; exact k
    obtain ⟨c1, c2⟩ := cn_ln (V := V2) hR2 ⟨o0, Int.lt_trans o1 o2⟩ ⟨by omega, o2⟩ ⟨l0, l1⟩ (by omega)
    have dc := cp_pos (V := V2) hR2 ⟨o0, Int.lt_trans o1 o2⟩ ⟨by omega, o2⟩ ⟨l0, l1⟩ (show trE I2 J2 o.1 o.2.1 o.2.2.1 ≠ 0 by omega)
    have zl := ln_eq hQ o.2.2.1
    have g1 := Int.mul_nonneg (Int.le_of_lt nn) (show 0 ≤ wP I2 J2 V2 x xd y yd o.2.2.1 - wP I2 J2 V2 x xd y yd o.1 by have := mo.2 o.2.2.1 l0 l1; omega)
    rw [zl] at g1
    have eqq : alg (I2 o.2.1 - I2 o.1) (J2 o.2.1 - J2 o.1) x xd y yd * (cpXD I2 J2 V2 o.1 o.2.1 o.2.2.1 * cpYD I2 J2 V2 o.1 o.2.1 o.2.2.1) = alg (I2 o.2.1 - I2 o.1) (J2 o.2.1 - J2 o.1) (cpX I2 J2 V2 o.1 o.2.1 o.2.2.1) (cpXD I2 J2 V2 o.1 o.2.1 o.2.2.1) (cpY I2 J2 V2 o.1 o.2.1 o.2.2.1) (cpYD I2 J2 V2 o.1 o.2.1 o.2.2.1) * (xd * yd) := by
      rw [Int.neg_mul, Int.neg_mul] at p2
      exact eq_pos zm.symm c g1 l2 (by omega) c2 dc hD
    have x1 := same nn hD dc hQ c1 eqq ma
    have x2 := same nn hD dc hQ c1 eqq mb
    have := cnt_min x1 x2 e1
    have := hc.1 p1
    omega
  · rw [c, Int.mul_zero, Int.add_zero] at zm
    have r0 : rsE I2 J2 V2 o.1 o.2.1 m = 0 := by rcases Int.mul_eq_zero.mp zm.symm with k | k; omega; exact k
    have nb := hbd m hm.1.1 hm.1.2
    by_cases s : o.1 ≤ m ∧ m ≤ o.2.1
    · exact s
    · exact absurd ⟨c, Or.inr ⟨r0, by omega⟩⟩ nb
  · exfalso
    obtain ⟨p1, p2⟩ := b2 m hm.1.1 hm.1.2 c
    obtain ⟨l0, l1, l2⟩ : 0 ≤ o.2.2.2 ∧ o.2.2.2 < n2 ∧ trE I2 J2 o.1 o.2.1 o.2.2.2 < 0 := by rcases s2 with k | k; exact absurd k p1; exact k
    obtain ⟨c1, c2⟩ := cn_ln (V := V2) hR2 ⟨o0, Int.lt_trans o1 o2⟩ ⟨by omega, o2⟩ ⟨l0, l1⟩ (by omega)
    have dc := cp_pos (V := V2) hR2 ⟨o0, Int.lt_trans o1 o2⟩ ⟨by omega, o2⟩ ⟨l0, l1⟩ (show trE I2 J2 o.1 o.2.1 o.2.2.2 ≠ 0 by omega)
    have zl := ln_eq hQ o.2.2.2
    have g1 := Int.mul_nonneg (Int.le_of_lt nn) (show 0 ≤ wP I2 J2 V2 x xd y yd o.2.2.2 - wP I2 J2 V2 x xd y yd o.1 by have := mo.2 o.2.2.2 l0 l1; omega)
    rw [zl] at g1
    have eqq : alg (I2 o.2.1 - I2 o.1) (J2 o.2.1 - J2 o.1) x xd y yd * (cpXD I2 J2 V2 o.1 o.2.1 o.2.2.2 * cpYD I2 J2 V2 o.1 o.2.1 o.2.2.2) = alg (I2 o.2.1 - I2 o.1) (J2 o.2.1 - J2 o.1) (cpX I2 J2 V2 o.1 o.2.1 o.2.2.2) (cpXD I2 J2 V2 o.1 o.2.1 o.2.2.2) (cpY I2 J2 V2 o.1 o.2.1 o.2.2.2) (cpYD I2 J2 V2 o.1 o.2.1 o.2.2.2) * (xd * yd) := by
      rw [Int.mul_neg, Int.mul_neg] at p2
      exact eq_neg zm.symm c g1 l2 (by omega) c2 dc hD
    have x1 := same nn hD dc hQ c1 eqq ma
    have x2 := same nn hD dc hQ c1 eqq mb
    have := cnt_min x1 x2 e1
    have := hc.2 p1
    omega
abbrev losl (I J : Int → Int) (e : EE) (I2 J2 : Int → Int) (o : EE) : Int := min (slp I J e.1 e.2.1 I2 J2 o.1) (slp I J e.1 e.2.1 I2 J2 o.2.1)
theorem hit_ne {e o : EE} {x xd y yd : Int} (h : HitP n I J V n2 I2 J2 V2 e o x xd y yd) : slp I J e.1 e.2.1 I2 J2 o.1 ≠ slp I J e.1 e.2.1 I2 J2 o.2.1 := by
  intro q
  have k := h.2.2.2.2.2
  have : xD I J e I2 J2 o = slp I J e.1 e.2.1 I2 J2 o.2.1 - slp I J e.1 e.2.1 I2 J2 o.1 := by unfold xD slp; grind
  omega
theorem hit_dif {e o o' : EE} {x xd y yd x' xd' y' yd' : Int} (hS : FS n I J) (hR2 : FR n2 I2 J2 V2) (hS2 : FS n2 I2 J2) (he : edOK n I J V e) (ho : edOK n2 I2 J2 V2 o) (ho' : edOK n2 I2 J2 V2 o') (hc : clE n I J V I2 J2 V2 o) (hc' : clE n I J V I2 J2 V2 o') (h : HitP n I J V n2 I2 J2 V2 e o x xd y yd) (h' : HitP n I J V n2 I2 J2 V2 e o' x' xd' y' yd') (hlo : losl I J e I2 J2 o = losl I J e I2 J2 o') : o.1 = o'.1 ∧ o.2.1 = o'.2.1 := by
  have n1 := hit_ne h
  have n1' := hit_ne h'
  have nn := pq_pos (hS e.1 e.2.1 he.1 he.2.1 he.2.2.1)
  have hh := h
  have hh' := h'
  obtain ⟨hD, ma, mb, mo, mo2, -⟩ := h
  obtain ⟨hD', ma', mb', mo', mo2', -⟩ := h'
  have hQ := min_eq mb ma
  have hQ' := min_eq mb' ma'
  unfold losl at hlo
  rcases (show alg (I e.2.1 - I e.1) (J e.2.1 - J e.1) x xd y yd * (xd' * yd') < alg (I e.2.1 - I e.1) (J e.2.1 - J e.1) x' xd' y' yd' * (xd * yd) ∨ alg (I e.2.1 - I e.1) (J e.2.1 - J e.1) x xd y yd * (xd' * yd') = alg (I e.2.1 - I e.1) (J e.2.1 - J e.1) x' xd' y' yd' * (xd * yd) ∨ alg (I e.2.1 - I e.1) (J e.2.1 - J e.1) x' xd' y' yd' * (xd * yd) < alg (I e.2.1 - I e.1) (J e.2.1 - J e.1) x xd y yd * (xd' * yd') by omega) with q | q | q
  · exfalso
    have y1 := mono nn hD hD' hQ hQ' mo mo' q
    have y2 := mono nn hD hD' hQ hQ' mo mo2' q
    have y3 := mono nn hD hD' hQ hQ' mo2 mo' q
    have y4 := mono nn hD hD' hQ hQ' mo2 mo2' q
    omega
  · have z1 := same nn hD hD' hQ hQ' q mo
    have z2 := same nn hD hD' hQ hQ' q mo2
    have z3 := same nn hD' hD hQ' hQ q.symm mo'
    have z4 := same nn hD' hD hQ' hQ q.symm mo2'
    have w1 := hit_col hR2 hS2 he ho hc hh z3
    have w2 := hit_col hR2 hS2 he ho hc hh z4
    have w3 := hit_col hR2 hS2 he ho' hc' hh' z1
    have w4 := hit_col hR2 hS2 he ho' hc' hh' z2
    omega
  · exfalso
    have y1 := mono nn hD' hD hQ' hQ mo' mo q
    have y2 := mono nn hD' hD hQ' hQ mo' mo2 q
    have y3 := mono nn hD' hD hQ' hQ mo2' mo q
    have y4 := mono nn hD' hD hQ' hQ mo2' mo2 q
    omega
end HT
