/-! CURVES: corners -/
theorem cq1 (c p q i j w : Int) : c * p * (p * j - q * i) - q * -(c * (i * p + j * q) + w * (p * p + q * q)) = (p * p + q * q) * (c * j + q * w) := by grind
theorem cq2 (c p q i j w : Int) : c * q * (p * j - q * i) + p * -(c * (i * p + j * q) + w * (p * p + q * q)) = (p * p + q * q) * -(c * i + p * w) := by grind
theorem sq_nn (x : Int) : 0 ≤ x * x := by rcases Int.le_total 0 x with h | h; exact Int.mul_nonneg h h; exact Int.mul_nonneg_of_nonpos_of_nonpos h h
theorem sq_pp {x : Int} (h : x ≠ 0) : 0 < x * x := by
  rcases Int.lt_or_le 0 x with q | q
  · exact Int.mul_pos q q
  · exact Int.mul_pos_of_neg_of_neg (by omega) (by omega)
theorem gc_pos (a b : Int) : 1 ≤ gc a b := by unfold gc; split <;> omega
theorem gc_dvd {a b : Int} (hb : b ≠ 0) : gc a b ∣ a ∧ gc a b ∣ b := by
  unfold gc
  have h : Nat.gcd a.natAbs b.natAbs ≠ 0 := fun q => by have := Nat.eq_zero_of_gcd_eq_zero_right q; omega
  rw [if_neg h]
  exact ⟨Int.natAbs_dvd_natAbs.mp (by simpa using Nat.gcd_dvd_left _ _), Int.natAbs_dvd_natAbs.mp (by simpa using Nat.gcd_dvd_right _ _)⟩
theorem gc_mul {m a b : Int} (hm : 0 < m) (hb : b ≠ 0) : gc (m * a) (m * b) = m * gc a b := by
  unfold gc
  have h : Nat.gcd a.natAbs b.natAbs ≠ 0 := fun q => by have := Nat.eq_zero_of_gcd_eq_zero_right q; omega
  have e : Nat.gcd (m * a).natAbs (m * b).natAbs = m.natAbs * Nat.gcd a.natAbs b.natAbs := by rw [Int.natAbs_mul, Int.natAbs_mul, Nat.gcd_mul_left]
  have h2 : m.natAbs * Nat.gcd a.natAbs b.natAbs ≠ 0 := Nat.mul_ne_zero (by omega) h
  rw [e, if_neg h, if_neg h2, Int.natCast_mul, Int.natAbs_of_nonneg (by omega)]
theorem gc_neg (a b : Int) : gc (-a) (-b) = gc a b := by unfold gc; rw [Int.natAbs_neg, Int.natAbs_neg]
theorem sg_mul {m b : Int} (hm : 0 < m) : sg (m * b) = sg b := by
  unfold sg
  by_cases h : b < 0
  · rw [if_pos h, if_pos (Int.mul_neg_of_pos_of_neg hm h)]
  · rw [if_neg h, if_neg (by have := Int.mul_nonneg (Int.le_of_lt hm) (Int.not_lt.mp h); omega)]
theorem sg_neg {b : Int} (hb : b ≠ 0) : sg (-b) = -sg b := by unfold sg; split <;> split <;> omega
theorem rd_mul {m x b : Int} (hm : 0 < m) (hb : b ≠ 0) : rdA (m * x) (m * b) = rdA x b ∧ rdB (m * x) (m * b) = rdB x b := by
  unfold rdA rdB
  rw [gc_mul hm hb, sg_mul hm, Int.mul_left_comm]
  exact ⟨Int.mul_tdiv_mul_of_pos _ _ hm, Int.mul_tdiv_mul_of_pos _ _ hm⟩
theorem rd_neg {x b : Int} (hb : b ≠ 0) : rdA (-x) (-b) = rdA x b ∧ rdB (-x) (-b) = rdB x b := by
  unfold rdA rdB
  rw [gc_neg, sg_neg hb, Int.neg_mul, Int.tdiv_neg, Int.neg_tdiv, Int.neg_neg, Int.tdiv_neg, Int.neg_tdiv, Int.neg_neg]
  exact ⟨rfl, rfl⟩
/-- in lowest terms a number keeps its bounds -/
theorem rd_b {x b A B : Int} (hx : -A ≤ x ∧ x ≤ A) (hb : -B ≤ b ∧ b ≤ B) (h0 : b ≠ 0) : (-A ≤ rdA x b ∧ rdA x b ≤ A) ∧ (1 ≤ rdB x b ∧ rdB x b ≤ B) := by
  have hg := gc_pos x b
  obtain ⟨t, ht⟩ := (gc_dvd (a := x) h0).2
  have h1 : (rdA x b).natAbs ≤ x.natAbs := by unfold rdA; rw [Int.natAbs_tdiv]; exact Nat.div_le_self _ _
  have h2 : (rdB x b).natAbs ≤ b.natAbs := by unfold rdB; rw [Int.natAbs_tdiv]; exact Nat.div_le_self _ _
  have h3 : 1 ≤ rdB x b := by
    unfold rdB
    have e : b.tdiv (sg b * gc x b) = sg b * t := by
      conv => lhs; arg 1; rw [ht]
      unfold sg
      split
      · rw [Int.neg_mul, Int.one_mul, Int.tdiv_neg, Int.mul_tdiv_cancel_left _ (by omega), Int.neg_mul, Int.one_mul]
      · rw [Int.one_mul, Int.mul_tdiv_cancel_left _ (by omega), Int.one_mul]
    rw [e]
    unfold sg
    split
    · rename_i q
      have : t < 0 := by
        rcases Int.lt_or_le t 0 with w | w
        · exact w
        · have := Int.mul_nonneg (show 0 ≤ gc x b by omega) w; omega
      omega
    · rename_i q
      have : 0 < t := by
        rcases Int.lt_or_le 0 t with w | w
        · exact w
        · have := Int.mul_nonneg (show 0 ≤ gc x b by omega) (show 0 ≤ -t by omega); rw [Int.mul_neg] at this; omega
      omega
  omega
/-- where a, b and k are worth the same, in lowest terms -/
def cnX (I J V : Int → Int) (a b k : Int) : Int := (V a - V b) * (J k - J a) + (J b - J a) * (V k - V a)
def cnY (I J V : Int → Int) (a b k : Int) : Int := -((V a - V b) * (I k - I a) + (I b - I a) * (V k - V a))
abbrev cpX (I J V : Int → Int) (a b k : Int) : Int := rdA (cnX I J V a b k) (trE I J a b k)
abbrev cpXD (I J V : Int → Int) (a b k : Int) : Int := rdB (cnX I J V a b k) (trE I J a b k)
abbrev cpY (I J V : Int → Int) (a b k : Int) : Int := rdA (cnY I J V a b k) (trE I J a b k)
abbrev cpYD (I J V : Int → Int) (a b k : Int) : Int := rdB (cnY I J V a b k) (trE I J a b k)
theorem cn_b {n : Int} {I J V : Int → Int} (hR : FR n I J V) {a b k : Int} (ha : 0 ≤ a ∧ a < n) (hb : 0 ≤ b ∧ b < n) (hk : 0 ≤ k ∧ k < n) : (-6400 ≤ cnX I J V a b k ∧ cnX I J V a b k ≤ 6400) ∧ -6400 ≤ cnY I J V a b k ∧ cnY I J V a b k ≤ 6400 := by
  have h1 := hR.2.2 a ha.1 ha.2
  have h2 := hR.2.2 b hb.1 hb.2
  have h3 := hR.2.2 k hk.1 hk.2
  have a1 := mb (a := V a - V b) (b := J k - J a) (A := 400) (B := 8) (by omega) (by omega) (by omega) (by omega)
  have a2 := mb (a := J b - J a) (b := V k - V a) (A := 8) (B := 400) (by omega) (by omega) (by omega) (by omega)
  have a3 := mb (a := V a - V b) (b := I k - I a) (A := 400) (B := 8) (by omega) (by omega) (by omega) (by omega)
  have a4 := mb (a := I b - I a) (b := V k - V a) (A := 8) (B := 400) (by omega) (by omega) (by omega) (by omega)
  unfold cnX cnY; omega
theorem cp_b {n : Int} {I J V : Int → Int} (hR : FR n I J V) {a b k : Int} (ha : 0 ≤ a ∧ a < n) (hb : 0 ≤ b ∧ b < n) (hk : 0 ≤ k ∧ k < n) (ht : trE I J a b k ≠ 0) : PB (cpX I J V a b k) (cpXD I J V a b k) (cpY I J V a b k) (cpYD I J V a b k) := by
  have h1 := cn_b hR ha hb hk
  have h2 := trE_b hR ha hb hk
  have h3 := rd_b h1.1 h2 ht
  have h4 := rd_b h1.2 h2 ht
  exact ⟨⟨h3.1.1, h3.1.2, h3.2.1, h3.2.2⟩, h4.1.1, h4.1.2, h4.2.1, h4.2.2⟩
/-- the corner as it is reckoned: u / v along the line of a and b -/
theorem cp_eq {I J V : Int → Int} {a b k u v : Int} (hab : I b ≠ I a ∨ J b ≠ J a) (ht : trE I J a b k ≠ 0) (huv : (u = -(rsE I J V a b k) ∧ v = trE I J a b k) ∨ (u = rsE I J V a b k ∧ v = -(trE I J a b k))) :
    rdA ((V a - V b) * (I b - I a) * v - (J b - J a) * u) (((I b - I a) * (I b - I a) + (J b - J a) * (J b - J a)) * v) = cpX I J V a b k ∧
    rdB ((V a - V b) * (I b - I a) * v - (J b - J a) * u) (((I b - I a) * (I b - I a) + (J b - J a) * (J b - J a)) * v) = cpXD I J V a b k ∧
    rdA ((V a - V b) * (J b - J a) * v + (I b - I a) * u) (((I b - I a) * (I b - I a) + (J b - J a) * (J b - J a)) * v) = cpY I J V a b k ∧
    rdB ((V a - V b) * (J b - J a) * v + (I b - I a) * u) (((I b - I a) * (I b - I a) + (J b - J a) * (J b - J a)) * v) = cpYD I J V a b k := by
  have hm : 0 < (I b - I a) * (I b - I a) + (J b - J a) * (J b - J a) := by
    rcases hab with h | h
    · have h1 := sq_nn (J b - J a)
      have h2 := sq_pp (show I b - I a ≠ 0 by omega)
      omega
    · have h1 := sq_nn (I b - I a)
      have h2 := sq_pp (show J b - J a ≠ 0 by omega)
      omega
  have e1 := cq1 (V a - V b) (I b - I a) (J b - J a) (I k - I a) (J k - J a) (V k - V a)
  have e2 := cq2 (V a - V b) (I b - I a) (J b - J a) (I k - I a) (J k - J a) (V k - V a)
  rcases huv with ⟨h1, h2⟩ | ⟨h1, h2⟩
  · have g1 : (V a - V b) * (I b - I a) * v - (J b - J a) * u = ((I b - I a) * (I b - I a) + (J b - J a) * (J b - J a)) * cnX I J V a b k := by rw [h1, h2]; exact e1
    have g2 : (V a - V b) * (J b - J a) * v + (I b - I a) * u = ((I b - I a) * (I b - I a) + (J b - J a) * (J b - J a)) * cnY I J V a b k := by rw [h1, h2]; exact e2
    rw [g1, g2, h2]
    have r1 := rd_mul (x := cnX I J V a b k) hm ht
    have r2 := rd_mul (x := cnY I J V a b k) hm ht
    exact ⟨r1.1, r1.2, r2.1, r2.2⟩
  · have g1 : (V a - V b) * (I b - I a) * v - (J b - J a) * u = ((I b - I a) * (I b - I a) + (J b - J a) * (J b - J a)) * -(cnX I J V a b k) := by
      rw [h1, h2, Int.mul_neg, Int.mul_neg, ← show (V a - V b) * (I b - I a) * trE I J a b k - (J b - J a) * -(rsE I J V a b k) = ((I b - I a) * (I b - I a) + (J b - J a) * (J b - J a)) * cnX I J V a b k from e1, Int.mul_neg]; omega
    have g2 : (V a - V b) * (J b - J a) * v + (I b - I a) * u = ((I b - I a) * (I b - I a) + (J b - J a) * (J b - J a)) * -(cnY I J V a b k) := by
      rw [h1, h2, Int.mul_neg, Int.mul_neg, ← show (V a - V b) * (J b - J a) * trE I J a b k + (I b - I a) * -(rsE I J V a b k) = ((I b - I a) * (I b - I a) + (J b - J a) * (J b - J a)) * cnY I J V a b k from e2, Int.mul_neg]; omega
    rw [g1, g2, h2]
    have nt : -(trE I J a b k) ≠ 0 := by omega
    have r1 := rd_mul (x := -(cnX I J V a b k)) hm nt
    have r2 := rd_mul (x := -(cnY I J V a b k)) hm nt
    have s1 := rd_neg (x := cnX I J V a b k) ht
    have s2 := rd_neg (x := cnY I J V a b k) ht
    exact ⟨r1.1.trans s1.1, r1.2.trans s1.2, r2.1.trans s2.1, r2.2.trans s2.2⟩
