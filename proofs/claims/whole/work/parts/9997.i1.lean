/-! GEOMETRY: the sides of the hull of what is least at a point are edges; one goes up over a level -/
section SD
variable {n : Int} {I J V : Int → Int}
theorem side_edge {a b x xd y yd sd : Int} (hR : FR n I J V) (hS : FS n I J) (hsd : sd = 1 ∨ sd = -1) (hab : a < b) (hD : 0 < xd * yd) (ha : MinP n I J V x xd y yd a) (hb : MinP n I J V x xd y yd b) (hM : ∀ m, MinP n I J V x xd y yd m → 0 ≤ sd * trE I J a b m ∧ (trE I J a b m = 0 → a ≤ m ∧ m ≤ b)) (hex : ∃ m, MinP n I J V x xd y yd m ∧ trE I J a b m ≠ 0) : ∃ l g, stF n I J V a b = some (l, g) ∧ (sd = 1 → l ≠ -1 ∧ 0 < trE I J a b l ∧ MinP n I J V x xd y yd l) ∧ (sd = -1 → g ≠ -1 ∧ trE I J a b g < 0 ∧ MinP n I J V x xd y yd g) := by
  have hn : 0 ≤ n := hR.1
  have nn := pq_pos (hS a b ha.1.1 hab hb.1.2)
  have hQ : wP I J V x xd y yd b = wP I J V x xd y yd a := min_eq hb ha
  have val : ∀ k, 0 ≤ k → k < n → 0 ≤ xd * yd * rsE I J V a b k + alg (I b - I a) (J b - J a) x xd y yd * trE I J a b k ∧ (xd * yd * rsE I J V a b k + alg (I b - I a) (J b - J a) x xd y yd * trE I J a b k = 0 → MinP n I J V x xd y yd k) := by
    intro k k0 k1
    have e := ln_eq hQ k
    have h := ha.2 k k0 k1
    rw [← e]
    refine ⟨Int.mul_nonneg (Int.le_of_lt nn) (by omega), fun z => ?_⟩
    have : wP I J V x xd y yd k = wP I J V x xd y yd a := by rcases Int.mul_eq_zero.mp z with q | q <;> omega
    exact ⟨⟨k0, k1⟩, fun j j0 j1 => by rw [this]; exact ha.2 j j0 j1⟩
  have zer : ∀ k, MinP n I J V x xd y yd k → xd * yd * rsE I J V a b k + alg (I b - I a) (J b - J a) x xd y yd * trE I J a b k = 0 := by
    intro k hk
    have e := ln_eq hQ k
    rw [min_eq hk ha, Int.sub_self, Int.mul_zero] at e
    exact e.symm
  generalize alg (I b - I a) (J b - J a) x xd y yd = S at *
  obtain ⟨l, g, hst⟩ := stF_some (n := n) (I := I) (J := J) (V := V) (a := a) (b := b) hn (fun k k0 k1 q => by
    obtain ⟨q1, q2⟩ := q
    obtain ⟨v1, v2⟩ := val k k0 k1
    rw [q1, Int.mul_zero, Int.add_zero] at v1 v2
    have r0 := Int.nonneg_of_mul_nonneg_right v1 hD
    rcases q2 with q2 | ⟨q2, q3⟩
    · omega
    · have := (hM k (v2 (by rw [q2, Int.mul_zero]))).2 q1
      omega) (fun k j k0 k1 j0 j1 tk tj => by
    obtain ⟨u1, u2⟩ := val k k0 k1
    obtain ⟨v1, v2⟩ := val j j0 j1
    have st : 0 < trE I J a b k * (xd * yd * rsE I J V a b j + S * trE I J a b j) + -(trE I J a b j) * (xd * yd * rsE I J V a b k + S * trE I J a b k) := by
      have g1 := Int.mul_nonneg (Int.le_of_lt tk) v1
      have g2 := Int.mul_nonneg (show 0 ≤ -(trE I J a b j) by omega) u1
      rcases hsd with e | e
      · have : xd * yd * rsE I J V a b j + S * trE I J a b j ≠ 0 := fun z => by have := (hM j (v2 z)).1; rw [e] at this; omega
        have := Int.mul_pos tk (show 0 < xd * yd * rsE I J V a b j + S * trE I J a b j by omega)
        omega
      · have : xd * yd * rsE I J V a b k + S * trE I J a b k ≠ 0 := fun z => by have := (hM k (u2 z)).1; rw [e] at this; omega
        have := Int.mul_pos (show 0 < -(trE I J a b j) by omega) (show 0 < xd * yd * rsE I J V a b k + S * trE I J a b k by omega)
        omega
    have e : trE I J a b k * (xd * yd * rsE I J V a b j + S * trE I J a b j) + -(trE I J a b j) * (xd * yd * rsE I J V a b k + S * trE I J a b k) = (xd * yd) * (rsE I J V a b j * trE I J a b k - -(rsE I J V a b k) * -(trE I J a b j)) := by grind
    rw [e] at st
    have := pos_l st hD
    omega)
  obtain ⟨⟨a1, a2⟩, ⟨b1, b2⟩, -, -⟩ := stF_max hn hst
  obtain ⟨o1, o2⟩ := stF_ok hn hst
  obtain ⟨m, hm, hmt⟩ := hex
  have zm := zer m hm
  have hm0 := (hM m hm).1
  refine ⟨l, g, hst, fun e => ?_, fun e => ?_⟩
  · rw [e, Int.one_mul] at hm0
    obtain ⟨p1, p2⟩ := a2 m hm.1.1 hm.1.2 (by omega)
    obtain ⟨l0, l1, l2⟩ : 0 ≤ l ∧ l < n ∧ 0 < trE I J a b l := by rcases o1 with k | k; exact absurd k p1; exact k
    obtain ⟨v1, v2⟩ := val l l0 l1
    refine ⟨p1, l2, v2 ?_⟩
    have e2 : trE I J a b m * (xd * yd * rsE I J V a b l + S * trE I J a b l) = (xd * yd) * (rsE I J V a b l * trE I J a b m - rsE I J V a b m * trE I J a b l) + (xd * yd * rsE I J V a b m + S * trE I J a b m) * trE I J a b l := by grind
    rw [zm, Int.zero_mul, Int.add_zero] at e2
    have g1 := Int.mul_nonneg (Int.le_of_lt hD) (show 0 ≤ -(rsE I J V a b l * trE I J a b m - rsE I J V a b m * trE I J a b l) by rw [Int.neg_mul, Int.neg_mul] at p2; omega)
    rw [Int.mul_neg] at g1
    rcases (show xd * yd * rsE I J V a b l + S * trE I J a b l = 0 ∨ 0 < xd * yd * rsE I J V a b l + S * trE I J a b l by omega) with q | q
    · exact q
    · have := Int.mul_pos (show 0 < trE I J a b m by omega) q; omega
  · rw [e] at hm0
    have tm : trE I J a b m < 0 := by omega
    obtain ⟨p1, p2⟩ := b2 m hm.1.1 hm.1.2 tm
    obtain ⟨l0, l1, l2⟩ : 0 ≤ g ∧ g < n ∧ trE I J a b g < 0 := by rcases o2 with k | k; exact absurd k p1; exact k
    obtain ⟨v1, v2⟩ := val g l0 l1
    refine ⟨p1, l2, v2 ?_⟩
    have e2 : -(trE I J a b m) * (xd * yd * rsE I J V a b g + S * trE I J a b g) = (xd * yd) * (rsE I J V a b g * -(trE I J a b m) - rsE I J V a b m * -(trE I J a b g)) - (xd * yd * rsE I J V a b m + S * trE I J a b m) * trE I J a b g := by grind
    rw [zm, Int.zero_mul, Int.sub_zero] at e2
    have g1 := Int.mul_nonneg (Int.le_of_lt hD) (show 0 ≤ -(rsE I J V a b g * -(trE I J a b m) - rsE I J V a b m * -(trE I J a b g)) by omega)
    rw [Int.mul_neg] at g1
    rcases (show xd * yd * rsE I J V a b g + S * trE I J a b g = 0 ∨ 0 < xd * yd * rsE I J V a b g + S * trE I J a b g by omega) with q | q
    · exact q
    · have := Int.mul_pos (show 0 < -(trE I J a b m) by omega) q; omega
/-- how a term stands to a level -/
abbrev xi (I J : Int → Int) (α β γ k : Int) : Int := α * I k + β * J k - γ
/-- a side of the places M, M on its left -/
def side (I J : Int → Int) (M : Int → Prop) (u v : Int) : Prop := u ≠ v ∧ M u ∧ M v ∧ ∀ m, M m → 0 ≤ trE I J u v m ∧ (trE I J u v m = 0 → (u ≤ m ∧ m ≤ v) ∨ (v ≤ m ∧ m ≤ u))
theorem side_uni {M : Int → Prop} {α β γ u v u' v' : Int} (h : side I J M u v) (h' : side I J M u' v') (x1 : xi I J α β γ u < 0) (x2 : 0 < xi I J α β γ v) (x3 : xi I J α β γ u' < 0) (x4 : 0 < xi I J α β γ v') : u = u' ∧ v = v' := by
  obtain ⟨n1, mu, mv, h1⟩ := h
  obtain ⟨n2, mu', mv', h2⟩ := h'
  have t1 := h1 u' mu'
  have t2 := h1 v' mv'
  have t3 := h2 u mu
  have t4 := h2 v mv
  have id : (xi I J α β γ v' * trE I J u v u' + -(xi I J α β γ u') * trE I J u v v') + (xi I J α β γ v * trE I J u' v' u + -(xi I J α β γ u) * trE I J u' v' v) = 0 := by unfold xi trE; grind
  have g1 := Int.mul_nonneg (Int.le_of_lt x4) t1.1
  have g2 := Int.mul_nonneg (show 0 ≤ -(xi I J α β γ u') by omega) t2.1
  have g3 := Int.mul_nonneg (Int.le_of_lt x2) t3.1
  have g4 := Int.mul_nonneg (show 0 ≤ -(xi I J α β γ u) by omega) t4.1
  have z1 : trE I J u v u' = 0 := by rcases Int.mul_eq_zero.mp (show xi I J α β γ v' * trE I J u v u' = 0 by omega) with q | q; omega; exact q
  have z2 : trE I J u v v' = 0 := by rcases Int.mul_eq_zero.mp (show -(xi I J α β γ u') * trE I J u v v' = 0 by omega) with q | q; omega; exact q
  have z3 : trE I J u' v' u = 0 := by rcases Int.mul_eq_zero.mp (show xi I J α β γ v * trE I J u' v' u = 0 by omega) with q | q; omega; exact q
  have z4 : trE I J u' v' v = 0 := by rcases Int.mul_eq_zero.mp (show -(xi I J α β γ u) * trE I J u' v' v = 0 by omega) with q | q; omega; exact q
  have w1 := t1.2 z1
  have w2 := t2.2 z2
  have w3 := t3.2 z3
  have w4 := t4.2 z4
  have ne1 : u ≠ v' := by intro e; rw [e] at x1; omega
  have ne2 : v ≠ u' := by intro e; rw [e] at x2; omega
  omega
theorem side_bt {u v m Δ θ : Int} (hR : FR n I J V) (hS : FS n I J) (hu : 0 ≤ u ∧ u < n) (hv : 0 ≤ v ∧ v < n) (hm : 0 ≤ m ∧ m < n) (h0 : 0 < Δ) (h1 : 0 ≤ θ) (h2 : θ ≤ Δ) (h : Δ * ph (I m - I u) (J m - J u) = θ * ph (I v - I u) (J v - J u)) : (u ≤ m ∧ m ≤ v) ∨ (v ≤ m ∧ m ≤ u) := by
  have p1 := fun q => ph_up hR hS hu hm q
  have p2 := fun q => ph_up hR hS hm hu q
  have p3 := fun q => ph_up hR hS hv hm q
  have p4 := fun q => ph_up hR hS hm hv q
  have e1 : ph (I u - I m) (J u - J m) = -(ph (I m - I u) (J m - J u)) := by unfold ph; omega
  have e2 : ph (I v - I m) (J v - J m) = ph (I v - I u) (J v - J u) - ph (I m - I u) (J m - J u) := by unfold ph; omega
  have e3 : ph (I m - I v) (J m - J v) = ph (I m - I u) (J m - J u) - ph (I v - I u) (J v - J u) := by unfold ph; omega
  rw [e1] at p1
  rw [e2] at p3
  rw [e3] at p4
  generalize ph (I m - I u) (J m - J u) = A at *
  generalize ph (I v - I u) (J v - J u) = B at *
  have k : Δ * (B - A) = (Δ - θ) * B := by rw [Int.mul_sub, h, Int.sub_mul]
  rcases (show 0 ≤ B ∨ B ≤ 0 by omega) with c | c
  · have g1 := Int.nonneg_of_mul_nonneg_right (show 0 ≤ Δ * A by rw [h]; exact Int.mul_nonneg h1 c) h0
    have g2 := Int.nonneg_of_mul_nonneg_right (show 0 ≤ Δ * (B - A) by rw [k]; exact Int.mul_nonneg (by omega) c) h0
    exact Or.inl ⟨p1 (by omega), p4 (by omega)⟩
  · have g1 := Int.nonneg_of_mul_nonneg_right (show 0 ≤ Δ * -A by rw [Int.mul_neg, h, ← Int.mul_neg]; exact Int.mul_nonneg h1 (by omega)) h0
    have g2 := Int.nonneg_of_mul_nonneg_right (show 0 ≤ Δ * (-(B - A)) by rw [Int.mul_neg, k, ← Int.mul_neg]; exact Int.mul_nonneg (by omega) (by omega)) h0
    exact Or.inr ⟨p3 (by omega), p2 (by omega)⟩
/-- there is one -/
theorem side_ex {M : Int → Prop} {α β γ k0 k1 : Int} (hR : FR n I J V) (hS : FS n I J) (hM : ∀ m, M m → 0 ≤ m ∧ m < n) (hab : 0 < α * α + β * β) (hne : ∀ m, M m → xi I J α β γ m ≠ 0) (m0 : M k0) (m1 : M k1) (x0 : xi I J α β γ k0 < 0) (x1 : 0 < xi I J α β γ k1) : ∃ u v, side I J M u v ∧ xi I J α β γ u < 0 ∧ 0 < xi I J α β γ v := by
  obtain ⟨a0, a1⟩ := hM k0 m0
  obtain ⟨b0, b1⟩ := hM k1 m1
  have hn : 0 < n := by omega
  have dm : ∀ s t, (0 ≤ s ∧ s < n) → (0 ≤ t ∧ t < n) → (s * n + t) / n = s ∧ (s * n + t) % n = t ∧ 0 ≤ s * n + t ∧ s * n + t < n * n := by
    intro s t hs ht
    obtain ⟨d1, d2⟩ := dm_n (s := s) (n := n) ht.1 ht.2
    have e1 := Int.mul_nonneg hs.1 (Int.le_of_lt hn)
    have e2 := Int.mul_le_mul_of_nonneg_right (show s + 1 ≤ n by omega) (Int.le_of_lt hn)
    rw [Int.add_mul] at e2
    exact ⟨d1, d2, by omega, by omega⟩
  have nn : ((n * n).toNat : Int) = n * n := by have := Int.mul_nonneg (Int.le_of_lt hn) (Int.le_of_lt hn); omega
  generalize hx : (fun k => xi I J α β γ k) = x
  have xd : ∀ k, xi I J α β γ k = x k := fun k => by rw [← hx]
  generalize hy : (fun k => α * J k - β * I k) = y
  have yd : ∀ k, α * J k - β * I k = y k := fun k => by rw [← hy]
  have tid : ∀ u v m, (α * α + β * β) * trE I J u v m = (x v - x u) * (y m - y u) - (y v - y u) * (x m - x u) := by
    intro u v m; rw [← xd, ← xd, ← xd, ← yd, ← yd, ← yd]; unfold xi trE; grind
  have phid : ∀ u v m, trE I J u v m = 0 → (x v - x u) * ph (I m - I u) (J m - J u) = (x m - x u) * ph (I v - I u) (J v - J u) := by
    intro u v m hz
    have e : (x v - x u) * ph (I m - I u) (J m - J u) - (x m - x u) * ph (I v - I u) (J v - J u) = (α - 9 * β) * trE I J u v m := by rw [← xd, ← xd, ← xd]; unfold xi ph trE; grind
    rw [hz, Int.mul_zero] at e; omega
  simp only [xd] at hne x0 x1 ⊢
  rcases frmax (fun p => -(x (p % n) * y (p / n) - x (p / n) * y (p % n))) (fun p => x (p % n) - x (p / n)) (fun p => M (p / n) ∧ M (p % n) ∧ x (p / n) < 0 ∧ 0 < x (p % n)) (n * n).toNat (fun p _ _ h => by omega) with c | ⟨p, ⟨p0, p1⟩, ⟨h1, h2, h3, h4⟩, h5⟩
  · obtain ⟨d1, d2, d3, d4⟩ := dm k0 k1 ⟨a0, a1⟩ ⟨b0, b1⟩
    refine absurd ?_ (c (k0 * n + k1) d3 (by omega))
    rw [d1, d2]; exact ⟨m0, m1, x0, x1⟩
  rcases frmax (fun q => x (q % n) - x (q / n)) (fun _ => 1) (fun q => (M (q / n) ∧ M (q % n) ∧ x (q / n) < 0 ∧ 0 < x (q % n)) ∧ -(x (q % n) * y (q / n) - x (q / n) * y (q % n)) * (x (p % n) - x (p / n)) = -(x (p % n) * y (p / n) - x (p / n) * y (p % n)) * (x (q % n) - x (q / n))) (n * n).toNat (fun _ _ _ _ => by decide) with c | ⟨r, ⟨r0, r1⟩, ⟨⟨r2, r3, r4, r5⟩, r6⟩, r7⟩
  · exact absurd ⟨⟨h1, h2, h3, h4⟩, rfl⟩ (c p p0 p1)
  have best : ∀ s t, M s → M t → x s < 0 → 0 < x t → -(x t * y s - x s * y t) * (x (r % n) - x (r / n)) ≤ -(x (r % n) * y (r / n) - x (r / n) * y (r % n)) * (x t - x s) ∧ (-(x t * y s - x s * y t) * (x (r % n) - x (r / n)) = -(x (r % n) * y (r / n) - x (r / n) * y (r % n)) * (x t - x s) → x t - x s ≤ x (r % n) - x (r / n)) := by
    intro s t ms mt xs xt
    obtain ⟨d1, d2, d3, d4⟩ := dm s t (hM s ms) (hM t mt)
    have q5 := h5 (s * n + t) d3 (by omega) (by rw [d1, d2]; exact ⟨ms, mt, xs, xt⟩)
    rw [d1, d2] at q5
    have q1 : -(x t * y s - x s * y t) * (x (r % n) - x (r / n)) ≤ -(x (r % n) * y (r / n) - x (r / n) * y (r % n)) * (x t - x s) := fr_tr (b := x t - x s) (d := x (p % n) - x (p / n)) (f := x (r % n) - x (r / n)) (by omega) (by omega) (by omega) q5 (Int.le_of_eq r6.symm)
    refine ⟨q1, fun e => ?_⟩
    have q2 : -(x t * y s - x s * y t) * (x (p % n) - x (p / n)) = -(x (p % n) * y (p / n) - x (p / n) * y (p % n)) * (x t - x s) := Int.le_antisymm q5 (fr_tr (b := x (p % n) - x (p / n)) (d := x (r % n) - x (r / n)) (f := x t - x s) (by omega) (by omega) (by omega) (Int.le_of_eq r6.symm) (Int.le_of_eq e.symm))
    have q3 := r7 (s * n + t) d3 (by omega) (by rw [d1, d2]; exact ⟨⟨ms, mt, xs, xt⟩, q2⟩)
    rw [d1, d2] at q3
    omega
  generalize r / n = u at *
  generalize r % n = v at *
  refine ⟨u, v, ⟨fun e => by rw [e] at r4; omega, r2, r3, fun m mm => ?_⟩, r4, r5⟩
  have tm := tid u v m
  have ru := hM u r2
  have rv := hM v r3
  have rm := hM m mm
  rcases (show x m < 0 ∨ 0 < x m by have := hne m mm; omega) with c | c
  · obtain ⟨b1, b2⟩ := best m v mm r3 c r5
    have e : -(x v * y u - x u * y v) * (x v - x m) - -(x v * y m - x m * y v) * (x v - x u) = x v * ((α * α + β * β) * trE I J u v m) := by rw [tm]; grind
    have g0 := Int.nonneg_of_mul_nonneg_right (show 0 ≤ x v * ((α * α + β * β) * trE I J u v m) by omega) r5
    refine ⟨Int.nonneg_of_mul_nonneg_right g0 hab, fun z => ?_⟩
    rw [z, Int.mul_zero, Int.mul_zero] at e
    have g1 := b2 (by omega)
    have g2 := phid u v m z
    exact side_bt hR hS ru rv rm (by omega) (by omega) (by omega) g2
  · obtain ⟨b1, b2⟩ := best u m r2 mm r4 c
    have e : -(x v * y u - x u * y v) * (x m - x u) - -(x m * y u - x u * y m) * (x v - x u) = -(x u) * ((α * α + β * β) * trE I J u v m) := by rw [tm]; grind
    have g0 := Int.nonneg_of_mul_nonneg_right (show 0 ≤ -(x u) * ((α * α + β * β) * trE I J u v m) by omega) (show 0 < -(x u) by omega)
    refine ⟨Int.nonneg_of_mul_nonneg_right g0 hab, fun z => ?_⟩
    rw [z, Int.mul_zero, Int.mul_zero] at e
    have g1 := b2 (by omega)
    have g2 := phid u v m z
    exact side_bt hR hS ru rv rm (by omega) (by omega) (by omega) g2
end SD
