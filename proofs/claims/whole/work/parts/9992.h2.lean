/-! GEOMETRY: a point where one term alone is least, or it is idle -/
theorem frmax (f g : Int → Int) (p : Int → Prop) : ∀ (m : Nat), (∀ k : Int, 0 ≤ k → k < m → p k → 0 < g k) → (∀ k : Int, 0 ≤ k → k < m → ¬ p k) ∨ ∃ h : Int, (0 ≤ h ∧ h < m) ∧ p h ∧ ∀ k : Int, 0 ≤ k → k < m → p k → f k * g h ≤ f h * g k
  | 0, _ => Or.inl (fun k k0 k1 => absurd k1 (by omega))
  | m + 1, hg => by
    rcases frmax f g p m (fun k k0 k1 => hg k k0 (by omega)) with c | ⟨h, ⟨h0, h1⟩, h2, h3⟩
    · rcases Classical.em (p m) with q | q
      · refine Or.inr ⟨m, ⟨by omega, by omega⟩, q, fun k k0 k1 kp => ?_⟩
        by_cases e : k = m
        · rw [e]; exact Int.le_refl _
        · exact absurd kp (c k k0 (by omega))
      · refine Or.inl (fun k k0 k1 kp => ?_)
        by_cases e : k = m
        · rw [e] at kp; exact q kp
        · exact c k k0 (by omega) kp
    · rcases Classical.em (p m ∧ f h * g m < f m * g h) with ⟨q1, q2⟩ | q
      · refine Or.inr ⟨m, ⟨by omega, by omega⟩, q1, fun k k0 k1 kp => ?_⟩
        by_cases e : k = m
        · rw [e]; exact Int.le_refl _
        · exact fr_tr (b := g k) (d := g h) (f := g m) (hg k k0 k1 kp) (hg h h0 (by omega) h2) (hg m (by omega) (by omega) q1) (h3 k k0 (by omega) kp) (Int.le_of_lt q2)
      · refine Or.inr ⟨h, ⟨h0, by omega⟩, h2, fun k k0 k1 kp => ?_⟩
        by_cases e : k = m
        · rw [e] at kp ⊢
          rcases (show f h * g m < f m * g h ∨ f m * g h ≤ f h * g m by omega) with s | s
          · exact absurd ⟨kp, s⟩ q
          · exact s
        · exact h3 k k0 (by omega) kp
/-- a point on a line -/
theorem one_d (c e : Int → Int) (p : Int → Prop) (m : Nat) (h0 : ∀ k : Int, 0 ≤ k → k < m → p k → c k = 0 → 0 < e k) (h1 : ∀ k j : Int, 0 ≤ k → k < m → 0 ≤ j → j < m → p k → p j → 0 < c k → c j < 0 → 0 < c k * e j - c j * e k) : ∃ x q : Int, 0 < q ∧ ∀ k : Int, 0 ≤ k → k < m → p k → 0 < q * e k + x * c k := by
  rcases frmax (fun k => -(e k)) c (fun k => p k ∧ 0 < c k) m (fun k _ _ h => h.2) with L | ⟨a, ⟨a0, a1⟩, ⟨ap, a2⟩, a3⟩
  · rcases frmax (fun k => -(e k)) (fun k => -(c k)) (fun k => p k ∧ c k < 0) m (fun k _ _ h => by have := h.2; omega) with U | ⟨b, ⟨b0, b1⟩, ⟨bp, b2⟩, b3⟩
    · refine ⟨0, 1, by decide, fun k k0 k1 kp => ?_⟩
      have z : c k = 0 := by
        rcases (show 0 < c k ∨ c k = 0 ∨ c k < 0 by omega) with q | q | q
        · exact absurd ⟨kp, q⟩ (L k k0 k1)
        · exact q
        · exact absurd ⟨kp, q⟩ (U k k0 k1)
      have := h0 k k0 k1 kp z
      omega
    · refine ⟨e b + c b, -(c b), by omega, fun k k0 k1 kp => ?_⟩
      have ed : -(c b) * e k + (e b + c b) * c k = (-(c b) * e k + e b * c k) + c b * c k := by grind
      rw [ed]
      rcases (show 0 < c k ∨ c k = 0 ∨ c k < 0 by omega) with q | q | q
      · exact absurd ⟨kp, q⟩ (L k k0 k1)
      · rw [q, Int.mul_zero, Int.mul_zero, Int.add_zero, Int.add_zero]
        exact Int.mul_pos (by omega) (h0 k k0 k1 kp q)
      · have t := b3 k k0 k1 ⟨kp, q⟩
        have t2 := Int.mul_pos_of_neg_of_neg b2 q
        have e1 : -(e k) * -(c b) = e k * c b := by grind
        have e2 : -(e b) * -(c k) = e b * c k := by grind
        have e3 : -(c b) * e k = -(e k * c b) := by grind
        omega
  · rcases frmax (fun k => -(e k)) (fun k => -(c k)) (fun k => p k ∧ c k < 0) m (fun k _ _ h => by have := h.2; omega) with U | ⟨b, ⟨b0, b1⟩, ⟨bp, b2⟩, b3⟩
    · refine ⟨c a - e a, c a, a2, fun k k0 k1 kp => ?_⟩
      have ed : c a * e k + (c a - e a) * c k = (c a * e k - e a * c k) + c a * c k := by grind
      rw [ed]
      rcases (show 0 < c k ∨ c k = 0 ∨ c k < 0 by omega) with q | q | q
      · have t := a3 k k0 k1 ⟨kp, q⟩
        have t2 := Int.mul_pos a2 q
        have e1 : -(e k) * c a = -(c a * e k) := by grind
        have e2 : -(e a) * c k = -(e a * c k) := by grind
        omega
      · rw [q, Int.mul_zero, Int.mul_zero, Int.add_zero, Int.sub_zero]
        exact Int.mul_pos a2 (h0 k k0 k1 kp q)
      · exact absurd ⟨kp, q⟩ (U k k0 k1)
    · refine ⟨e b - e a, c a - c b, by omega, fun k k0 k1 kp => ?_⟩
      have ed : (c a - c b) * e k + (e b - e a) * c k = (c a * e k - e a * c k) + (e b * c k - e k * c b) := by grind
      rw [ed]
      rcases (show 0 < c k ∨ c k = 0 ∨ c k < 0 by omega) with q | q | q
      · have t := a3 k k0 k1 ⟨kp, q⟩
        have t2 := h1 k b k0 k1 b0 b1 kp bp q b2
        have e1 : -(e k) * c a = -(c a * e k) := by grind
        have e2 : -(e a) * c k = -(e a * c k) := by grind
        have e3 : c k * e b - c b * e k = e b * c k - e k * c b := by grind
        omega
      · rw [q, Int.mul_zero, Int.mul_zero, Int.sub_zero, Int.zero_sub]
        have s := h0 k k0 k1 kp q
        have t1 := Int.mul_pos a2 s
        have t2 := Int.mul_pos (show 0 < -(c b) by omega) s
        have e3 : -(e k * c b) = -(c b) * e k := by grind
        omega
      · have t := b3 k k0 k1 ⟨kp, q⟩
        have t2 := h1 a k a0 a1 k0 k1 ap kp a2 q
        have e1 : -(e k) * -(c b) = e k * c b := by grind
        have e2 : -(e b) * -(c k) = e b * c k := by grind
        have e3 : c a * e k - c k * e a = c a * e k - e a * c k := by grind
        omega
/-- a term k as it stands to the line of t and P -/
def Trn (u v u' v' : Int) : Int := u * v' - v * u'
def Rsn (u v w u' v' w' : Int) : Int := (u * u + v * v) * w' - (u * u' + v * v') * w
theorem rs_1 (X Y Z u v w u' v' w' : Int) (h : Trn u v u' v' = 0) : (u * u + v * v) * (X * u' + Y * v' + Z * w') - (u * u' + v * v') * (X * u + Y * v + Z * w) = Z * Rsn u v w u' v' w' := by
  have e : (u * u + v * v) * (X * u' + Y * v' + Z * w') - (u * u' + v * v') * (X * u + Y * v + Z * w) = Z * Rsn u v w u' v' w' + Trn u v u' v' * (u * Y - v * X) := by unfold Trn Rsn; grind
  rw [h, Int.zero_mul, Int.add_zero] at e
  exact e
theorem rs_2 (u v w u1 v1 w1 u2 v2 w2 : Int) : Trn u v u1 v1 * Rsn u v w u2 v2 w2 - Trn u v u2 v2 * Rsn u v w u1 v1 w1 = (u * u + v * v) * (Trn u v u1 v1 * w2 - Trn u v u2 v2 * w1 + Trn u1 v1 u2 v2 * w) := by unfold Trn Rsn; grind
theorem rs_3 (X Y Z u v w u1 v1 w1 u2 v2 w2 : Int) : Trn u v u1 v1 * (X * u2 + Y * v2 + Z * w2) - Trn u v u2 v2 * (X * u1 + Y * v1 + Z * w1) + Trn u1 v1 u2 v2 * (X * u + Y * v + Z * w) = Z * (Trn u v u1 v1 * w2 - Trn u v u2 v2 * w1 + Trn u1 v1 u2 v2 * w) := by unfold Trn; grind
theorem rs_4 (u v u' v' : Int) : (u * u + v * v) * (u' * u' + v' * v') = (u * u' + v * v') * (u * u' + v * v') + Trn u v u' v' * Trn u v u' v' := by unfold Trn; grind
theorem rs_5 (x q u v w u' v' w' : Int) : q * Rsn u v w u' v' w' + x * Trn u v u' v' = (-(q * w * u) - x * v) * u' + (-(q * w * v) + x * u) * v' + (q * (u * u + v * v)) * w' := by unfold Trn Rsn; grind
section GO
variable {n : Int} {I J V : Int → Int}
abbrev Lf (I J V : Int → Int) (t X Y Z k : Int) : Int := X * (I k - I t) + Y * (J k - J t) + Z * (V k - V t)
theorem pl_ne {s t : Int} (hR : FR n I J V) (hS : FS n I J) (hs : 0 ≤ s ∧ s < n) (ht : 0 ≤ t ∧ t < n) (h : s ≠ t) : 0 < (I s - I t) * (I s - I t) + (J s - J t) * (J s - J t) := by
  rcases (show s < t ∨ t < s by omega) with k | k
  · have := pq_pos (hS s t hs.1 k ht.2)
    have e : (I t - I s) * (I t - I s) + (J t - J s) * (J t - J s) = (I s - I t) * (I s - I t) + (J s - J t) * (J s - J t) := by grind
    omega
  · exact pq_pos (hS t s ht.1 k hs.2)
theorem gord {t : Int} (hR : FR n I J V) (hS : FS n I J) (ht : 0 ≤ t ∧ t < n) : ∀ (m : Nat), (m : Int) ≤ n → (∃ X Y Z : Int, 0 < Z ∧ ∀ k : Int, 0 ≤ k → k < m → k ≠ t → 0 < Lf I J V t X Y Z k) ∨ idM n I J V t
  | 0, _ => Or.inl ⟨0, 0, 1, by decide, fun k k0 k1 => absurd k1 (by omega)⟩
  | m + 1, hm => by
    rcases gord hR hS ht m (by omega) with ⟨X, Y, Z, hZ, hX⟩ | h
    · by_cases em : (m : Int) = t
      · exact Or.inl ⟨X, Y, Z, hZ, fun k k0 k1 kt => hX k k0 (by omega) kt⟩
      · by_cases hp : 0 < Lf I J V t X Y Z m
        · refine Or.inl ⟨X, Y, Z, hZ, fun k k0 k1 kt => ?_⟩
          by_cases e : k = m
          · rw [e]; exact hp
          · exact hX k k0 (by omega) kt
        · generalize hP : (m : Int) = P at *
          have P0 : 0 ≤ P ∧ P < n := by omega
          have nP := pl_ne hR hS P0 ht em
          rcases Classical.em (∃ k, 0 ≤ k ∧ k < P ∧ k ≠ t ∧ Trn (I P - I t) (J P - J t) (I k - I t) (J k - J t) = 0 ∧ Rsn (I P - I t) (J P - J t) (V P - V t) (I k - I t) (J k - J t) (V k - V t) ≤ 0) with ⟨k, k0, k1, kt, ktr, krs⟩ | b1
          · right
            have hk := hX k k0 (by omega) kt
            have r1 := rs_1 X Y Z (I P - I t) (J P - J t) (V P - V t) (I k - I t) (J k - J t) (V k - V t) ktr
            have r4 := rs_4 (I P - I t) (J P - J t) (I k - I t) (J k - J t)
            rw [ktr, Int.mul_zero, Int.add_zero] at r4
            have nk := pl_ne hR hS ⟨k0, by omega⟩ ht kt
            refine ⟨k, P, k0, k1, P0.2, kt, em, Or.inl ?_⟩
            have e1 : trE I J k P t = -(Trn (I P - I t) (J P - J t) (I k - I t) (J k - J t)) := by unfold trE Trn; grind
            have e2 : ptE I J t k P = ((I k - I t) * (I k - I t) + (J k - J t) * (J k - J t)) - ((I P - I t) * (I k - I t) + (J P - J t) * (J k - J t)) := by unfold ptE; grind
            have e3 : byE I J k P = ((I k - I t) * (I k - I t) + (J k - J t) * (J k - J t)) + ((I P - I t) * (I P - I t) + (J P - J t) * (J P - J t)) - 2 * ((I P - I t) * (I k - I t) + (J P - J t) * (J k - J t)) := by unfold byE; grind
            unfold un2
            rw [e1, ktr, e2, e3]
            unfold Rsn at krs r1
            unfold Lf at hk hp
            generalize X * (I k - I t) + Y * (J k - J t) + Z * (V k - V t) = Fk at *
            generalize X * (I P - I t) + Y * (J P - J t) + Z * (V P - V t) = FP at *
            generalize (I P - I t) * (I k - I t) + (J P - J t) * (J k - J t) = D at *
            generalize (I P - I t) * (I P - I t) + (J P - J t) * (J P - J t) = N at *
            generalize (I k - I t) * (I k - I t) + (J k - J t) * (J k - J t) = M at *
            have dn : D ≤ 0 := by
              rcases (show D ≤ 0 ∨ 0 < D by omega) with q | q
              · exact q
              · have s1 := Int.mul_pos nP hk
                have s2 := Int.mul_nonneg (Int.le_of_lt q) (show 0 ≤ -FP by omega)
                have s3 := Int.mul_nonneg (Int.le_of_lt hZ) (show 0 ≤ -(N * (V k - V t) - D * (V P - V t)) by omega)
                rw [Int.mul_neg] at s2 s3
                omega
            refine ⟨by omega, by omega, by omega, ?_⟩
            have key : N * (V t * (M + N - 2 * D) - V k * (M + N - 2 * D - (M - D)) - V P * (M - D)) = (N - D) * -(N * (V k - V t) - D * (V P - V t)) - (V P - V t) * (N * M - D * D) := by grind
            rw [r4, Int.sub_self, Int.mul_zero, Int.sub_zero] at key
            have s := Int.mul_nonneg (show 0 ≤ N - D by omega) (show 0 ≤ -(N * (V k - V t) - D * (V P - V t)) by omega)
            rw [← key] at s
            have := Int.nonneg_of_mul_nonneg_right s nP
            omega
          · rcases Classical.em (∃ k j, (0 ≤ k ∧ k < P) ∧ (0 ≤ j ∧ j < P) ∧ k ≠ t ∧ j ≠ t ∧ 0 < Trn (I P - I t) (J P - J t) (I k - I t) (J k - J t) ∧ Trn (I P - I t) (J P - J t) (I j - I t) (J j - J t) < 0 ∧ Trn (I P - I t) (J P - J t) (I k - I t) (J k - J t) * Rsn (I P - I t) (J P - J t) (V P - V t) (I j - I t) (J j - J t) (V j - V t) - Trn (I P - I t) (J P - J t) (I j - I t) (J j - J t) * Rsn (I P - I t) (J P - J t) (V P - V t) (I k - I t) (J k - J t) (V k - V t) ≤ 0) with ⟨k, j, ⟨k0, k1⟩, ⟨j0, j1⟩, kt, jt, tk, tj, hr⟩ | b2
            · right
              rw [rs_2] at hr
              have r3 := rs_3 X Y Z (I P - I t) (J P - J t) (V P - V t) (I k - I t) (J k - J t) (V k - V t) (I j - I t) (J j - J t) (V j - V t)
              have hk := hX k k0 (by omega) kt
              have hj := hX j j0 (by omega) jt
              have W : Trn (I P - I t) (J P - J t) (I k - I t) (J k - J t) * (V j - V t) - Trn (I P - I t) (J P - J t) (I j - I t) (J j - J t) * (V k - V t) + Trn (I k - I t) (J k - J t) (I j - I t) (J j - J t) * (V P - V t) ≤ 0 := by
                rcases (show Trn (I P - I t) (J P - J t) (I k - I t) (J k - J t) * (V j - V t) - Trn (I P - I t) (J P - J t) (I j - I t) (J j - J t) * (V k - V t) + Trn (I k - I t) (J k - J t) (I j - I t) (J j - J t) * (V P - V t) ≤ 0 ∨ 0 < Trn (I P - I t) (J P - J t) (I k - I t) (J k - J t) * (V j - V t) - Trn (I P - I t) (J P - J t) (I j - I t) (J j - J t) * (V k - V t) + Trn (I k - I t) (J k - J t) (I j - I t) (J j - J t) * (V P - V t) by omega) with q | q
                · exact q
                · have := Int.mul_pos nP q; omega
              have kj : 0 ≤ Trn (I k - I t) (J k - J t) (I j - I t) (J j - J t) := by
                rcases (show 0 ≤ Trn (I k - I t) (J k - J t) (I j - I t) (J j - J t) ∨ Trn (I k - I t) (J k - J t) (I j - I t) (J j - J t) < 0 by omega) with q | q
                · exact q
                · have s1 := Int.mul_pos tk hj
                  have s2 := Int.mul_pos (show 0 < -(Trn (I P - I t) (J P - J t) (I j - I t) (J j - J t)) by omega) hk
                  have s3 := Int.mul_nonneg (show 0 ≤ -(Trn (I k - I t) (J k - J t) (I j - I t) (J j - J t)) by omega) (show 0 ≤ -(Lf I J V t X Y Z P) by omega)
                  have s4 := Int.mul_nonneg (Int.le_of_lt hZ) (Int.neg_nonneg_of_nonpos W)
                  rw [Int.neg_mul] at s2
                  rw [Int.neg_mul_neg] at s3
                  rw [Int.mul_neg] at s4
                  unfold Lf at s1 s2 s3
                  omega
              have c1 : ∀ x y, trE I J t x y = Trn (I x - I t) (J x - J t) (I y - I t) (J y - J t) := fun x y => rfl
              have c2 : ∀ x y, trE I J x t y = Trn (I y - I t) (J y - J t) (I x - I t) (J x - J t) := fun x y => by unfold trE Trn; grind
              have c3 : ∀ x y, trE I J x y t = Trn (I x - I t) (J x - J t) (I y - I t) (J y - J t) := fun x y => by unfold trE Trn; grind
              have c4 : ∀ x y z, trE I J x y z = Trn (I x - I t) (J x - J t) (I y - I t) (J y - J t) + Trn (I y - I t) (J y - J t) (I z - I t) (J z - J t) + Trn (I z - I t) (J z - J t) (I x - I t) (J x - J t) := fun x y z => by unfold trE Trn; grind
              have c5 : ∀ a b c d, Trn c d a b = -(Trn a b c d) := fun a b c d => by unfold Trn; grind
              have kj' : k ≠ j := by intro e; rw [e] at tk; omega
              have e1 := c5 (I P - I t) (J P - J t) (I j - I t) (J j - J t)
              have e2 := c5 (I P - I t) (J P - J t) (I k - I t) (J k - J t)
              have e3 := c5 (I k - I t) (J k - J t) (I j - I t) (J j - J t)
              rcases (show k < j ∨ j < k by omega) with q | q
              · refine ⟨k, j, k0, q, by omega, kt, jt, Or.inr ⟨P, j1, P0.2, em, ?_⟩⟩
                unfold un3
                rw [c1, c2, c3, c4 k j P, e1]
                generalize Trn (I P - I t) (J P - J t) (I k - I t) (J k - J t) = a at *
                generalize Trn (I P - I t) (J P - J t) (I j - I t) (J j - J t) = b at *
                generalize Trn (I k - I t) (J k - J t) (I j - I t) (J j - J t) = c at *
                have sg : sg1 (c + -b + a) = 1 := if_neg (by omega)
                rw [sg]
                refine ⟨by omega, by omega, by omega, by omega, ?_⟩
                have : V t * (c + -b + a) * 1 - (-b * 1 * V k + a * 1 * V j + c * 1 * V P) = -(a * (V j - V t) - b * (V k - V t) + c * (V P - V t)) := by grind
                omega
              · refine ⟨j, k, j0, q, by omega, jt, kt, Or.inr ⟨P, k1, P0.2, em, ?_⟩⟩
                unfold un3
                rw [c1, c2, c3, c4 j k P, e2, e3]
                generalize Trn (I P - I t) (J P - J t) (I k - I t) (J k - J t) = a at *
                generalize Trn (I P - I t) (J P - J t) (I j - I t) (J j - J t) = b at *
                generalize Trn (I k - I t) (J k - J t) (I j - I t) (J j - J t) = c at *
                have sg : sg1 (-c + -a + b) = -1 := if_pos (by omega)
                rw [sg]
                refine ⟨by omega, by omega, by omega, by omega, ?_⟩
                have : V t * (-c + -a + b) * -1 - (-a * -1 * V j + b * -1 * V k + -c * -1 * V P) = -(a * (V j - V t) - b * (V k - V t) + c * (V P - V t)) := by grind
                omega
            · left
              obtain ⟨x, q, q0, hq⟩ := one_d (fun k => Trn (I P - I t) (J P - J t) (I k - I t) (J k - J t)) (fun k => Rsn (I P - I t) (J P - J t) (V P - V t) (I k - I t) (J k - J t) (V k - V t)) (fun k => k ≠ t) m (fun k k0 k1 kp kc => by
                rcases (show 0 < Rsn (I P - I t) (J P - J t) (V P - V t) (I k - I t) (J k - J t) (V k - V t) ∨ Rsn (I P - I t) (J P - J t) (V P - V t) (I k - I t) (J k - J t) (V k - V t) ≤ 0 by omega) with s | s
                · exact s
                · exact absurd ⟨k, k0, by omega, kp, kc, s⟩ b1) (fun k j k0 k1 j0 j1 kp jp ck cj => by
                rcases (show 0 < Trn (I P - I t) (J P - J t) (I k - I t) (J k - J t) * Rsn (I P - I t) (J P - J t) (V P - V t) (I j - I t) (J j - J t) (V j - V t) - Trn (I P - I t) (J P - J t) (I j - I t) (J j - J t) * Rsn (I P - I t) (J P - J t) (V P - V t) (I k - I t) (J k - J t) (V k - V t) ∨ Trn (I P - I t) (J P - J t) (I k - I t) (J k - J t) * Rsn (I P - I t) (J P - J t) (V P - V t) (I j - I t) (J j - J t) (V j - V t) - Trn (I P - I t) (J P - J t) (I j - I t) (J j - J t) * Rsn (I P - I t) (J P - J t) (V P - V t) (I k - I t) (J k - J t) (V k - V t) ≤ 0 by omega) with s | s
                · exact s
                · exact absurd ⟨k, j, ⟨k0, by omega⟩, ⟨j0, by omega⟩, kp, jp, ck, cj, s⟩ b2)
              refine ⟨129 * (-(q * (V P - V t) * (I P - I t)) - x * (J P - J t)) + (I P - I t), 129 * (-(q * (V P - V t) * (J P - J t)) + x * (I P - I t)) + (J P - J t), 129 * (q * ((I P - I t) * (I P - I t) + (J P - J t) * (J P - J t))), by have := Int.mul_pos q0 nP; omega, fun k k0 k1 kt => ?_⟩
              have r5 := rs_5 x q (I P - I t) (J P - J t) (V P - V t) (I k - I t) (J k - J t) (V k - V t)
              have lf : Lf I J V t (129 * (-(q * (V P - V t) * (I P - I t)) - x * (J P - J t)) + (I P - I t)) (129 * (-(q * (V P - V t) * (J P - J t)) + x * (I P - I t)) + (J P - J t)) (129 * (q * ((I P - I t) * (I P - I t) + (J P - J t) * (J P - J t)))) k = 129 * (q * Rsn (I P - I t) (J P - J t) (V P - V t) (I k - I t) (J k - J t) (V k - V t) + x * Trn (I P - I t) (J P - J t) (I k - I t) (J k - J t)) + ((I P - I t) * (I k - I t) + (J P - J t) * (J k - J t)) := by
                rw [r5]; unfold Lf; grind
              rw [lf]
              by_cases e : k = P
              · have z : q * Rsn (I P - I t) (J P - J t) (V P - V t) (I P - I t) (J P - J t) (V P - V t) + x * Trn (I P - I t) (J P - J t) (I P - I t) (J P - J t) = 0 := by unfold Rsn Trn; grind
                rw [e, z]; omega
              · have s := hq k k0 (by omega) kt
                have rP := hR.2.2 P P0.1 P0.2
                have rt := hR.2.2 t ht.1 ht.2
                have rk := hR.2.2 k k0 (by omega)
                have m1 := mb (a := I P - I t) (b := I k - I t) (A := 8) (B := 8) (by omega) (by omega) (by omega) (by omega)
                have m2 := mb (a := J P - J t) (b := J k - J t) (A := 8) (B := 8) (by omega) (by omega) (by omega) (by omega)
                omega
    · exact Or.inr h
end GO
