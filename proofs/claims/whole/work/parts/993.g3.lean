/-! GEOMETRY: corners and the terms that are low or high at them -/
section PT
variable {n : Int} {I J V : Int → Int}
theorem cp_pos {a b l : Int} (hR : FR n I J V) (ha : 0 ≤ a ∧ a < n) (hb : 0 ≤ b ∧ b < n) (hl : 0 ≤ l ∧ l < n) (ht : trE I J a b l ≠ 0) : 0 < cpXD I J V a b l * cpYD I J V a b l := by
  have h := cp_b (V := V) hR ha hb hl ht
  exact Int.mul_pos (by have := h.1; omega) (by have := h.2; omega)
/-- the corner where the stretch of a and b begins, or ends -/
def isEnd (I J V : Int → Int) (n a b l : Int) : Prop := 0 ≤ a ∧ a < b ∧ b < n ∧ 0 ≤ l ∧ l < n ∧ trE I J a b l ≠ 0 ∧ (∀ m, 0 ≤ m → m < n → 0 ≤ trE I J a b l * fC I J V a b l m) ∧ ∀ m, 0 ≤ m → m < n → fC I J V a b l m = 0 → 0 ≤ trE I J a b l * trE I J a b m ∧ (trE I J a b m = 0 → a ≤ m ∧ m ≤ b)
theorem end_low {a b l g : Int} (hS : FS n I J) (h0 : 0 ≤ a) (hab : a < b) (hb : b < n) (h : stF n I J V a b = some (l, g)) (hl : l ≠ -1) : isEnd I J V n a b l ∧ 0 < trE I J a b l := by
  have hn : 0 ≤ n := by omega
  have hlx := hS a b h0 hab hb
  obtain ⟨k1, -⟩ := stF_ok hn h
  obtain ⟨l0, l1, l2⟩ : 0 ≤ l ∧ l < n ∧ 0 < trE I J a b l := by rcases k1 with k | k; exact absurd k hl; exact k
  refine ⟨⟨h0, hab, hb, l0, l1, by omega, fun m m0 m1 => Int.mul_nonneg (Int.le_of_lt l2) (low_nn hn hlx h hl m0 m1).1, fun m m0 m1 hm => ?_⟩, l2⟩
  obtain ⟨p1, p2⟩ := (low_nn hn hlx h hl m0 m1).2 hm
  exact ⟨Int.mul_nonneg (Int.le_of_lt l2) p1, p2⟩
theorem end_high {a b l g : Int} (hS : FS n I J) (h0 : 0 ≤ a) (hab : a < b) (hb : b < n) (h : stF n I J V a b = some (l, g)) (hg : g ≠ -1) : isEnd I J V n a b g ∧ trE I J a b g < 0 := by
  have hn : 0 ≤ n := by omega
  have hlx := hS a b h0 hab hb
  obtain ⟨-, k1⟩ := stF_ok hn h
  obtain ⟨l0, l1, l2⟩ : 0 ≤ g ∧ g < n ∧ trE I J a b g < 0 := by rcases k1 with k | k; exact absurd k hg; exact k
  refine ⟨⟨h0, hab, hb, l0, l1, by omega, fun m m0 m1 => Int.mul_nonneg_of_nonpos_of_nonpos (Int.le_of_lt l2) (high_nn hn hlx h hg m0 m1).1, fun m m0 m1 hm => ?_⟩, l2⟩
  obtain ⟨p1, p2⟩ := (high_nn hn hlx h hg m0 m1).2 hm
  exact ⟨Int.mul_nonneg_of_nonpos_of_nonpos (Int.le_of_lt l2) p1, p2⟩
abbrev MinC (n : Int) (I J V : Int → Int) (a b l m : Int) : Prop := MinP n I J V (cpX I J V a b l) (cpXD I J V a b l) (cpY I J V a b l) (cpYD I J V a b l) m
theorem end_min {a b l : Int} (hR : FR n I J V) (h : isEnd I J V n a b l) {m : Int} (hm : 0 ≤ m ∧ m < n) : MinC n I J V a b l m ↔ fC I J V a b l m = 0 := by
  obtain ⟨a0, ab, bn, l0, l1, ht, h1, h2⟩ := h
  have hp := cp_pos hR ⟨a0, by omega⟩ ⟨by omega, bn⟩ ⟨l0, l1⟩ ht
  have hwk : ∀ k, 0 ≤ k → k < n → wP I J V (cpX I J V a b l) (cpXD I J V a b l) (cpY I J V a b l) (cpYD I J V a b l) a ≤ wP I J V (cpX I J V a b l) (cpXD I J V a b l) (cpY I J V a b l) (cpYD I J V a b l) k ∧ (wP I J V (cpX I J V a b l) (cpXD I J V a b l) (cpY I J V a b l) (cpYD I J V a b l) a = wP I J V (cpX I J V a b l) (cpXD I J V a b l) (cpY I J V a b l) (cpYD I J V a b l) k ↔ fC I J V a b l k = 0) := by
    intro k k0 k1
    have e := wP_f (V := V) (m := k) ht
    have hf := h1 k k0 k1
    generalize wP I J V (cpX I J V a b l) (cpXD I J V a b l) (cpY I J V a b l) (cpYD I J V a b l) k = wk at e ⊢
    generalize wP I J V (cpX I J V a b l) (cpXD I J V a b l) (cpY I J V a b l) (cpYD I J V a b l) a = wa at e ⊢
    generalize cpXD I J V a b l * cpYD I J V a b l = c at e hp
    generalize fC I J V a b l k = f at e hf ⊢
    generalize trE I J a b l = t at e hf ht
    have e2 : t * t * (wk - wa) = c * (t * f) := by rw [Int.mul_assoc, e]; grind
    have tt := sq_pp ht
    have g1 : 0 ≤ c * (t * f) := Int.mul_nonneg (Int.le_of_lt hp) hf
    rw [← e2] at g1
    have g2 := Int.nonneg_of_mul_nonneg_right g1 tt
    refine ⟨by omega, fun q => ?_, fun q => ?_⟩
    · rw [q, Int.sub_self, Int.mul_zero] at e
      rcases Int.mul_eq_zero.mp e.symm with k | k
      · omega
      · exact k
    · rw [q, Int.mul_zero] at e
      rcases Int.mul_eq_zero.mp e with k | k
      · exact absurd k ht
      · omega
  constructor
  · rintro ⟨-, q⟩
    have q1 := q a a0 (by omega)
    obtain ⟨r1, r2⟩ := hwk m hm.1 hm.2
    exact r2.mp (by omega)
  · intro q
    have q1 := (hwk m hm.1 hm.2).2.mpr q
    exact ⟨hm, fun k k0 k1 => by have := (hwk k k0 k1).1; omega⟩
theorem end_abl {a b l : Int} (hR : FR n I J V) (h : isEnd I J V n a b l) : MinC n I J V a b l a ∧ MinC n I J V a b l b ∧ MinC n I J V a b l l := by
  obtain ⟨f1, f2, f3⟩ := fC_ab (I := I) (J := J) (V := V) (a := a) (b := b) l
  have h' := h
  obtain ⟨a0, ab, bn, l0, l1, -⟩ := h'
  exact ⟨(end_min hR h ⟨a0, by omega⟩).mpr f1, (end_min hR h ⟨by omega, bn⟩).mpr f2, (end_min hR h ⟨l0, l1⟩).mpr f3⟩
/-- two functions of places that differ by a linear one; a place between -/
theorem uni {p q a1 b1 c1 d1 a2 b2 c2 d2 : Int} (hA1 : 0 < ph a1 b1) (hB1 : 0 < ph c1 d1) (hA2 : 0 < ph a2 b2) (hB2 : 0 < ph c2 d2) (x1 : 0 < cr a1 b1 c1 d1) (x2 : 0 < cr a2 b2 c2 d2) (u1 : 0 ≤ p * a1 + q * b1) (v1 : p * c1 + q * d1 ≤ 0) (u2 : p * a2 + q * b2 ≤ 0) (v2 : 0 ≤ p * c2 + q * d2) : p = 0 ∧ q = 0 := by
  have e1 := ph_u p q a1 b1 c1 d1
  have e2 := ph_u p q a2 b2 c2 d2
  have s1 := Int.mul_nonneg (Int.le_of_lt hB1) u1
  have s2 := Int.mul_nonneg (Int.le_of_lt hA1) (show 0 ≤ -(p * c1 + q * d1) by omega)
  have s3 := Int.mul_nonneg (Int.le_of_lt hB2) (show 0 ≤ -(p * a2 + q * b2) by omega)
  have s4 := Int.mul_nonneg (Int.le_of_lt hA2) v2
  rw [Int.mul_neg] at s2 s3
  have k1 : 0 ≤ p - 9 * q := Int.nonneg_of_mul_nonneg_right (show 0 ≤ cr a1 b1 c1 d1 * (p - 9 * q) by omega) x1
  have k2 : p - 9 * q ≤ 0 := by
    rcases (show p - 9 * q ≤ 0 ∨ 0 < p - 9 * q by omega) with k | k
    · exact k
    · have := Int.mul_pos x2 k
      omega
  have kz : p - 9 * q = 0 := by omega
  rw [kz, Int.mul_zero] at e1
  have z1 : ph c1 d1 * (p * a1 + q * b1) = 0 := by omega
  have z2 : ph a1 b1 * (p * c1 + q * d1) = 0 := by omega
  have w1 : p * a1 + q * b1 = 0 := by rcases Int.mul_eq_zero.mp z1 with k | k; omega; exact k
  have w2 : p * c1 + q * d1 = 0 := by rcases Int.mul_eq_zero.mp z2 with k | k; omega; exact k
  have m1 : p * cr a1 b1 c1 d1 = d1 * (p * a1 + q * b1) - b1 * (p * c1 + q * d1) := by unfold cr; grind
  have m2 : q * cr a1 b1 c1 d1 = a1 * (p * c1 + q * d1) - c1 * (p * a1 + q * b1) := by unfold cr; grind
  rw [w1, w2, Int.mul_zero, Int.mul_zero, Int.sub_self] at m1 m2
  constructor
  · rcases Int.mul_eq_zero.mp m1 with k | k; exact k; omega
  · rcases Int.mul_eq_zero.mp m2 with k | k; exact k; omega
theorem ph_lex {s t : Int} (hR : FR n I J V) (hS : FS n I J) (h0 : 0 ≤ s) (h1 : s < t) (h2 : t < n) : 0 < ph (I t - I s) (J t - J s) := by
  have h := hS s t h0 h1 h2
  have r1 := hR.2.2 s h0 (by omega)
  have r2 := hR.2.2 t (by omega) h2
  unfold lexlt at h
  unfold ph
  omega
/-- a term between two others that are least at the point, on their right (1), on their left (-1) -/
def midP (n : Int) (I J V : Int → Int) (sd x xd y yd t : Int) : Prop := ∃ s r, s < t ∧ t < r ∧ MinP n I J V x xd y yd s ∧ MinP n I J V x xd y yd t ∧ MinP n I J V x xd y yd r ∧ 0 < sd * cr (I t - I s) (J t - J s) (I r - I t) (J r - J t)
theorem min_eq {x xd y yd s t : Int} (h1 : MinP n I J V x xd y yd s) (h2 : MinP n I J V x xd y yd t) : wP I J V x xd y yd s = wP I J V x xd y yd t := by
  have a := h1.2 t h2.1.1 h2.1.2
  have b := h2.2 s h1.1.1 h1.1.2
  omega
/-- a term is such a one at one point at most -/
theorem mid_uni {sd x xd y yd x' xd' y' yd' t : Int} (hR : FR n I J V) (hS : FS n I J) (hsd : sd = 1 ∨ sd = -1) (hD : 0 < xd ∧ 0 < yd) (hD' : 0 < xd' ∧ 0 < yd') (h1 : midP n I J V sd x xd y yd t) (h2 : midP n I J V sd x' xd' y' yd' t) : x * xd' = x' * xd ∧ y * yd' = y' * yd := by
  obtain ⟨s1, r1, a1, a2, a3, a4, a5, a6⟩ := h1
  obtain ⟨s2, r2, b1, b2, b3, b4, b5, b6⟩ := h2
  have pA1 := ph_lex hR hS a3.1.1 a1 a4.1.2
  have pB1 := ph_lex hR hS a4.1.1 a2 a5.1.2
  have pA2 := ph_lex hR hS b3.1.1 b1 b4.1.2
  have pB2 := ph_lex hR hS b4.1.1 b2 b5.1.2
  have hDD := Int.mul_pos hD.1 hD.2
  have hDD' := Int.mul_pos hD'.1 hD'.2
  have lin : ∀ s r, (xd' * yd') * (wP I J V x xd y yd r - wP I J V x xd y yd s) - (xd * yd) * (wP I J V x' xd' y' yd' r - wP I J V x' xd' y' yd' s) = ((xd' * yd') * (x * yd) - (xd * yd) * (x' * yd')) * (I r - I s) + ((xd' * yd') * (y * xd) - (xd * yd) * (y' * xd')) * (J r - J s) := by
    intro s r; unfold wP wv; grind
  have z1 : wP I J V x xd y yd s1 = wP I J V x xd y yd t := min_eq a3 a4
  have z2 : wP I J V x xd y yd r1 = wP I J V x xd y yd t := min_eq a5 a4
  have z3 : wP I J V x' xd' y' yd' s2 = wP I J V x' xd' y' yd' t := min_eq b3 b4
  have z4 : wP I J V x' xd' y' yd' r2 = wP I J V x' xd' y' yd' t := min_eq b5 b4
  have l1 := lin s1 t
  have l2 := lin t r1
  have l3 := lin s2 t
  have l4 := lin t r2
  rw [z1, Int.sub_self, Int.mul_zero] at l1
  rw [z2, Int.sub_self, Int.mul_zero] at l2
  rw [z3, Int.sub_self, Int.mul_zero] at l3
  rw [z4, Int.sub_self, Int.mul_zero] at l4
  have m1 := Int.mul_nonneg (Int.le_of_lt hDD) (show 0 ≤ wP I J V x' xd' y' yd' s1 - wP I J V x' xd' y' yd' t by have := b4.2 s1 a3.1.1 a3.1.2; omega)
  have m2 := Int.mul_nonneg (Int.le_of_lt hDD) (show 0 ≤ wP I J V x' xd' y' yd' r1 - wP I J V x' xd' y' yd' t by have := b4.2 r1 a5.1.1 a5.1.2; omega)
  have m3 := Int.mul_nonneg (Int.le_of_lt hDD') (show 0 ≤ wP I J V x xd y yd s2 - wP I J V x xd y yd t by have := a4.2 s2 b3.1.1 b3.1.2; omega)
  have m4 := Int.mul_nonneg (Int.le_of_lt hDD') (show 0 ≤ wP I J V x xd y yd r2 - wP I J V x xd y yd t by have := a4.2 r2 b5.1.1 b5.1.2; omega)
  have n1 : (xd * yd) * (wP I J V x' xd' y' yd' t - wP I J V x' xd' y' yd' s1) = -((xd * yd) * (wP I J V x' xd' y' yd' s1 - wP I J V x' xd' y' yd' t)) := by grind
  have n3 : (xd' * yd') * (wP I J V x xd y yd t - wP I J V x xd y yd s2) = -((xd' * yd') * (wP I J V x xd y yd s2 - wP I J V x xd y yd t)) := by grind
  generalize hp : (xd' * yd') * (x * yd) - (xd * yd) * (x' * yd') = p at l1 l2 l3 l4
  generalize hq : (xd' * yd') * (y * xd) - (xd * yd) * (y' * xd') = q at l1 l2 l3 l4
  have pq : p = 0 ∧ q = 0 := by
    rcases hsd with e | e
    · rw [e, Int.one_mul] at a6 b6
      exact uni pA1 pB1 pA2 pB2 a6 b6 (by omega) (by omega) (by omega) (by omega)
    · rw [e, Int.neg_mul, Int.one_mul] at a6 b6
      have s6 : ∀ a b c d : Int, cr c d a b = -cr a b c d := fun a b c d => by unfold cr; grind
      have h := uni (p := -p) (q := -q) pB1 pA1 pB2 pA2 (by rw [s6]; exact a6) (by rw [s6]; exact b6) (by rw [Int.neg_mul, Int.neg_mul]; omega) (by rw [Int.neg_mul, Int.neg_mul]; omega) (by rw [Int.neg_mul, Int.neg_mul]; omega) (by rw [Int.neg_mul, Int.neg_mul]; omega)
      omega
  constructor
  · have e : yd * yd' * (x * xd' - x' * xd) = p := by rw [← hp]; grind
    rw [pq.1] at e
    rcases Int.mul_eq_zero.mp e with k | k
    · have := Int.mul_pos hD.2 hD'.2; omega
    · omega
  · have e : xd * xd' * (y * yd' - y' * yd) = q := by rw [← hq]; grind
    rw [pq.2] at e
    rcases Int.mul_eq_zero.mp e with k | k
    · have := Int.mul_pos hD.1 hD'.1; omega
    · omega
end PT
/-- pigeons -/
theorem php : ∀ (N m : Nat) (R : Nat → Nat → Prop), (∀ k, k < m → ∃ c, c < N ∧ R k c) → (∀ k k' c, k < m → k' < m → R k c → R k' c → k = k') → m ≤ N
  | 0, m, R, h1, _ => by
    rcases Nat.eq_zero_or_pos m with e | e
    · omega
    · obtain ⟨c, c1, -⟩ := h1 0 e; omega
  | N + 1, m, R, h1, h2 => by
    rcases Classical.em (∃ k, k < m ∧ R k N) with ⟨k0, k1, k2⟩ | h
    · have := php N (m - 1) (fun k c => R (if k = k0 then m - 1 else k) c) (fun k hk => by
        obtain ⟨c, c1, c2⟩ := h1 (if k = k0 then m - 1 else k) (by split <;> omega)
        refine ⟨c, ?_, c2⟩
        rcases Nat.lt_or_ge c N with q | q
        · exact q
        · have e : c = N := by omega
          rw [e] at c2
          have := h2 _ _ _ (by split <;> omega) k1 c2 k2
          split at this <;> omega) (fun k k' c hk hk' r1 r2 => by
        have := h2 _ _ c (by split <;> omega) (by split <;> omega) r1 r2
        split at this <;> split at this <;> omega)
      omega
    · have := php N m R (fun k hk => by
        obtain ⟨c, c1, c2⟩ := h1 k hk
        refine ⟨c, ?_, c2⟩
        rcases Nat.lt_or_ge c N with q | q
        · exact q
        · have e : c = N := by omega
          rw [e] at c2
          exact absurd ⟨k, hk, c2⟩ h) h2
      omega
