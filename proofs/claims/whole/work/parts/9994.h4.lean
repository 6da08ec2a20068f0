/-! GEOMETRY: where the stretch holds a point, the term is least there -/
theorem mns_le {f : Int → Int} : ∀ (c : Nat) (k m : Int), mns f c k m ≤ m ∧ ∀ t, k ≤ t → t < k + c → mns f c k m ≤ f t
  | 0, k, m => ⟨Int.le_refl _, fun t t0 t1 => absurd t1 (by omega)⟩
  | c + 1, k, m => by
    obtain ⟨h1, h2⟩ := mns_le (f := f) c (k + 1) (min m (f k))
    show mns f c (k + 1) (min m (f k)) ≤ m ∧ ∀ t, k ≤ t → t < k + ((c + 1 : Nat) : Int) → mns f c (k + 1) (min m (f k)) ≤ f t
    refine ⟨by omega, fun t t0 t1 => ?_⟩
    by_cases e : t = k
    · rw [e]; omega
    · exact h2 t (by omega) (by omega)
theorem mns_at {f : Int → Int} : ∀ (c : Nat) (k m : Int), mns f c k m = m ∨ ∃ t, k ≤ t ∧ t < k + c ∧ mns f c k m = f t
  | 0, k, m => Or.inl rfl
  | c + 1, k, m => by
    show mns f c (k + 1) (min m (f k)) = m ∨ ∃ t, k ≤ t ∧ t < k + ((c + 1 : Nat) : Int) ∧ mns f c (k + 1) (min m (f k)) = f t
    rcases mns_at (f := f) c (k + 1) (min m (f k)) with h | ⟨t, t0, t1, t2⟩
    · rcases (show min m (f k) = m ∨ min m (f k) = f k by omega) with q | q
      · exact Or.inl (h.trans q)
      · exact Or.inr ⟨k, Int.le_refl _, by omega, h.trans q⟩
    · exact Or.inr ⟨t, by omega, by omega, t2⟩
theorem cnt_1 {p : Int → Bool} : ∀ (c : Nat) (k a : Int), k ≤ a → a < k + c → p a = true → 1 ≤ cnt p c k
  | 0, k, a, h0, h1, _ => absurd h1 (by omega)
  | c + 1, k, a, h0, h1, hp => by
    show 1 ≤ (if p k then 1 else 0) + cnt p c (k + 1)
    have := (cnt_b p c (k + 1)).1
    by_cases e : k = a
    · rw [e, if_pos hp]; rw [e] at this; omega
    · have := cnt_1 c (k + 1) a (by omega) (by omega) hp
      split <;> omega
theorem cnt_2 {p : Int → Bool} : ∀ (c : Nat) (k a b : Int), k ≤ a → a < b → b < k + c → p a = true → p b = true → 2 ≤ cnt p c k
  | 0, k, a, b, h0, h1, h2, _, _ => absurd h2 (by omega)
  | c + 1, k, a, b, h0, h1, h2, hp, hq => by
    show 2 ≤ (if p k then 1 else 0) + cnt p c (k + 1)
    by_cases e : k = a
    · have := cnt_1 c (k + 1) b (by omega) (by omega) hq
      rw [e, if_pos hp]; rw [e] at this; omega
    · have := cnt_2 c (k + 1) a b (by omega) h1 (by omega) hp hq
      split <;> omega
section ME
variable {n : Int} {I J V : Int → Int}
theorem least_iff {x xd y yd m : Int} (hm : 0 ≤ m ∧ m < n) : wP I J V x xd y yd m = leastS n I J V x xd y yd ↔ ∀ k, 0 ≤ k → k < n → wP I J V x xd y yd m ≤ wP I J V x xd y yd k := by
  unfold leastS lst
  rw [if_pos (show 0 < n by omega)]
  obtain ⟨h1, h2⟩ := mns_le (f := fun t => wv (I t) (J t) (V t) x xd y yd) (n - 1).toNat 1 (wv (I 0) (J 0) (V 0) x xd y yd)
  have h3 := mns_at (f := fun t => wv (I t) (J t) (V t) x xd y yd) (n - 1).toNat 1 (wv (I 0) (J 0) (V 0) x xd y yd)
  have h2' : ∀ k, 0 ≤ k → k < n → mns (fun t => wv (I t) (J t) (V t) x xd y yd) (n - 1).toNat 1 (wv (I 0) (J 0) (V 0) x xd y yd) ≤ wP I J V x xd y yd k := by
    intro k k0 k1
    by_cases e : k = 0
    · rw [e]; exact h1
    · exact h2 k (by omega) (by omega)
  constructor
  · intro e k k0 k1
    rw [e]; exact h2' k k0 k1
  · intro h
    refine Int.le_antisymm ?_ (h2' m hm.1 hm.2)
    rcases h3 with q | ⟨t, t0, t1, q⟩
    · rw [q]; exact h 0 (Int.le_refl _) (by omega)
    · rw [q]; exact h t (by omega) (by omega)
theorem ln_eq {a b x xd y yd : Int} (h : wP I J V x xd y yd b = wP I J V x xd y yd a) (k : Int) : ((I b - I a) * (I b - I a) + (J b - J a) * (J b - J a)) * (wP I J V x xd y yd k - wP I J V x xd y yd a) = xd * yd * rsE I J V a b k + alg (I b - I a) (J b - J a) x xd y yd * trE I J a b k := by
  have e : ((I b - I a) * (I b - I a) + (J b - J a) * (J b - J a)) * (wP I J V x xd y yd k - wP I J V x xd y yd a) = xd * yd * rsE I J V a b k + alg (I b - I a) (J b - J a) x xd y yd * trE I J a b k + ((I k - I a) * (I b - I a) + (J k - J a) * (J b - J a)) * (wP I J V x xd y yd b - wP I J V x xd y yd a) := by unfold wP wv rsE alg trE; grind
  rw [h, Int.sub_self, Int.mul_zero, Int.add_zero] at e
  exact e
/-- a corner on the line of a and b, and where it stands there -/
theorem cn_ln {a b l : Int} (hR : FR n I J V) (ha : 0 ≤ a ∧ a < n) (hb : 0 ≤ b ∧ b < n) (hl : 0 ≤ l ∧ l < n) (ht : trE I J a b l ≠ 0) : wP I J V (cpX I J V a b l) (cpXD I J V a b l) (cpY I J V a b l) (cpYD I J V a b l) b = wP I J V (cpX I J V a b l) (cpXD I J V a b l) (cpY I J V a b l) (cpYD I J V a b l) a ∧ (cpXD I J V a b l * cpYD I J V a b l) * rsE I J V a b l + alg (I b - I a) (J b - J a) (cpX I J V a b l) (cpXD I J V a b l) (cpY I J V a b l) (cpYD I J V a b l) * trE I J a b l = 0 := by
  obtain ⟨-, f2, f3⟩ := fC_ab (I := I) (J := J) (V := V) (a := a) (b := b) l
  have e1 := wP_f (V := V) (m := b) ht
  have e2 := wP_f (V := V) (m := l) ht
  rw [f2, Int.mul_zero] at e1
  rw [f3, Int.mul_zero] at e2
  have z1 : wP I J V (cpX I J V a b l) (cpXD I J V a b l) (cpY I J V a b l) (cpYD I J V a b l) b = wP I J V (cpX I J V a b l) (cpXD I J V a b l) (cpY I J V a b l) (cpYD I J V a b l) a := by
    rcases Int.mul_eq_zero.mp e1 with k | k
    · exact absurd k ht
    · omega
  have z2 : wP I J V (cpX I J V a b l) (cpXD I J V a b l) (cpY I J V a b l) (cpYD I J V a b l) l = wP I J V (cpX I J V a b l) (cpXD I J V a b l) (cpY I J V a b l) (cpYD I J V a b l) a := by
    rcases Int.mul_eq_zero.mp e2 with k | k
    · exact absurd k ht
    · omega
  refine ⟨z1, ?_⟩
  have := ln_eq z1 l
  rw [z2, Int.sub_self, Int.mul_zero] at this
  exact this.symm
/-- an end of a stretch, as its curve keeps it -/
def atC (X XD Y YD : Int → Int) (I J V : Int → Int) (a b c l : Int) : Prop := (c = -1 ∧ l = -1) ∨ (c ≠ -1 ∧ l ≠ -1 ∧ X c = cpX I J V a b l ∧ XD c = cpXD I J V a b l ∧ Y c = cpY I J V a b l ∧ YD c = cpYD I J V a b l)
theorem cmp_neg {p q x xd y yd x' xd' y' yd' : Int} : (cmpA p q x xd y yd x' xd' y' yd' < 0 ↔ alg p q x xd y yd * (xd' * yd') < alg p q x' xd' y' yd' * (xd * yd)) ∧ (0 < cmpA p q x xd y yd x' xd' y' yd' ↔ alg p q x' xd' y' yd' * (xd * yd) < alg p q x xd y yd * (xd' * yd')) := by
  unfold cmpA
  split
  · exact ⟨⟨fun _ => by assumption, fun _ => by decide⟩, fun h => absurd h (by decide), fun h => by omega⟩
  · split
    · exact ⟨⟨fun h => absurd h (by decide), fun h => by omega⟩, fun h => absurd h (by decide), fun h => by omega⟩
    · exact ⟨⟨fun h => absurd h (by decide), fun h => by omega⟩, fun _ => by omega, fun _ => by decide⟩
/-- where a point on the line stands to the corner of the term l -/
theorem cn_side {a b l x xd y yd : Int} (hR : FR n I J V) (hS : FS n I J) (h0 : 0 ≤ a) (hab : a < b) (hb : b < n) (hl : 0 ≤ l ∧ l < n) (ht : trE I J a b l ≠ 0) (hD : 0 < xd * yd) (hQ : wP I J V x xd y yd b = wP I J V x xd y yd a) : (0 < trE I J a b l → (alg (I b - I a) (J b - J a) x xd y yd * (cpXD I J V a b l * cpYD I J V a b l) < alg (I b - I a) (J b - J a) (cpX I J V a b l) (cpXD I J V a b l) (cpY I J V a b l) (cpYD I J V a b l) * (xd * yd) ↔ wP I J V x xd y yd l < wP I J V x xd y yd a)) ∧ (trE I J a b l < 0 → (alg (I b - I a) (J b - J a) (cpX I J V a b l) (cpXD I J V a b l) (cpY I J V a b l) (cpYD I J V a b l) * (xd * yd) < alg (I b - I a) (J b - J a) x xd y yd * (cpXD I J V a b l * cpYD I J V a b l) ↔ wP I J V x xd y yd l < wP I J V x xd y yd a)) := by
  have hc := cp_pos hR ⟨h0, by omega⟩ ⟨by omega, hb⟩ hl ht
  have e1 := (cn_ln hR ⟨h0, by omega⟩ ⟨by omega, hb⟩ hl ht).2
  have e2 := ln_eq hQ l
  have nn := pq_pos (hS a b h0 hab hb)
  generalize cpXD I J V a b l * cpYD I J V a b l = Dc at *
  generalize alg (I b - I a) (J b - J a) (cpX I J V a b l) (cpXD I J V a b l) (cpY I J V a b l) (cpYD I J V a b l) = Sc at *
  generalize alg (I b - I a) (J b - J a) x xd y yd = S at *
  generalize xd * yd = D at *
  generalize (I b - I a) * (I b - I a) + (J b - J a) * (J b - J a) = N at *
  generalize rsE I J V a b l = r at *
  generalize trE I J a b l = t at *
  generalize hx : wP I J V x xd y yd l - wP I J V x xd y yd a = d at *
  have key : t * (S * Dc - Sc * D) = Dc * (N * d) := by rw [e2]; grind
  have k2 : ∀ z : Int, 0 < z → (Dc * (N * d) < 0 ↔ d < 0) := by
    intro _ _
    constructor
    · intro h
      rcases (show d < 0 ∨ 0 ≤ d by omega) with q | q
      · exact q
      · have := Int.mul_nonneg (Int.le_of_lt hc) (Int.mul_nonneg (Int.le_of_lt nn) q); omega
    · intro h
      have := Int.mul_pos hc (Int.mul_pos nn (show 0 < -d by omega))
      rw [Int.mul_neg, Int.mul_neg] at this
      omega
  have k3 := k2 1 (by decide)
  rw [← key] at k3
  constructor
  · intro tp
    constructor
    · intro h
      have := Int.mul_pos tp (show 0 < -(S * Dc - Sc * D) by omega)
      rw [Int.mul_neg] at this
      have := k3.mp (by omega)
      omega
    · intro h
      have h2 := k3.mpr (by omega)
      rcases (show S * Dc < Sc * D ∨ 0 ≤ S * Dc - Sc * D by omega) with q | q
      · exact q
      · have := Int.mul_nonneg (Int.le_of_lt tp) q; omega
  · intro tp
    constructor
    · intro h
      have := Int.mul_pos (show 0 < -t by omega) (show 0 < S * Dc - Sc * D by omega)
      rw [Int.neg_mul] at this
      have := k3.mp (by omega)
      omega
    · intro h
      have h2 := k3.mpr (by omega)
      rcases (show Sc * D < S * Dc ∨ 0 ≤ -(S * Dc - Sc * D) by omega) with q | q
      · exact q
      · have := Int.mul_nonneg (show 0 ≤ -t by omega) q
        rw [Int.neg_mul_neg] at this
        omega
theorem hld_iff {a b l g c1 c2 x xd y yd : Int} {X XD Y YD : Int → Int} (hR : FR n I J V) (hS : FS n I J) (h0 : 0 ≤ a) (hab : a < b) (hb : b < n) (h : stF n I J V a b = some (l, g)) (hc1 : atC X XD Y YD I J V a b c1 l) (hc2 : atC X XD Y YD I J V a b c2 g) (hD : 0 < xd * yd) (hQ : wP I J V x xd y yd b = wP I J V x xd y yd a) : hldS (I b - I a) (J b - J a) x xd y yd c1 c2 X XD Y YD = 1 ↔ ∀ k, 0 ≤ k → k < n → wP I J V x xd y yd a ≤ wP I J V x xd y yd k := by
  have nn := pq_pos (hS a b h0 hab hb)
  obtain ⟨⟨a1, a2⟩, ⟨b1, b2⟩, hbd, -⟩ := stF_max (by omega) h
  obtain ⟨o1, o2⟩ := stF_ok (by omega) h
  have A : (c1 ≠ -1 ∧ cmpA (I b - I a) (J b - J a) x xd y yd (X c1) (XD c1) (Y c1) (YD c1) < 0) ↔ (l ≠ -1 ∧ wP I J V x xd y yd l < wP I J V x xd y yd a) := by
    rcases hc1 with ⟨q1, q2⟩ | ⟨q1, q2, q3, q4, q5, q6⟩
    · exact ⟨fun k => absurd q1 k.1, fun k => absurd q2 k.1⟩
    · obtain ⟨l0, l1, l2⟩ : 0 ≤ l ∧ l < n ∧ 0 < trE I J a b l := by rcases o1 with k | k; exact absurd k q2; exact k
      rw [q3, q4, q5, q6, cmp_neg.1, (cn_side hR hS h0 hab hb ⟨l0, l1⟩ (by omega) hD hQ).1 l2]
      exact ⟨fun k => ⟨q2, k.2⟩, fun k => ⟨q1, k.2⟩⟩
  have B : (c2 ≠ -1 ∧ 0 < cmpA (I b - I a) (J b - J a) x xd y yd (X c2) (XD c2) (Y c2) (YD c2)) ↔ (g ≠ -1 ∧ wP I J V x xd y yd g < wP I J V x xd y yd a) := by
    rcases hc2 with ⟨q1, q2⟩ | ⟨q1, q2, q3, q4, q5, q6⟩
    · exact ⟨fun k => absurd q1 k.1, fun k => absurd q2 k.1⟩
    · obtain ⟨l0, l1, l2⟩ : 0 ≤ g ∧ g < n ∧ trE I J a b g < 0 := by rcases o2 with k | k; exact absurd k q2; exact k
      rw [q3, q4, q5, q6, cmp_neg.2, (cn_side hR hS h0 hab hb ⟨l0, l1⟩ (by omega) hD hQ).2 l2]
      exact ⟨fun k => ⟨q2, k.2⟩, fun k => ⟨q1, k.2⟩⟩
  have hl : hldS (I b - I a) (J b - J a) x xd y yd c1 c2 X XD Y YD = 1 ↔ ¬ (l ≠ -1 ∧ wP I J V x xd y yd l < wP I J V x xd y yd a) ∧ ¬ (g ≠ -1 ∧ wP I J V x xd y yd g < wP I J V x xd y yd a) := by
    rw [← A, ← B]
    unfold hldS
    by_cases k1 : c1 ≠ -1 ∧ cmpA (I b - I a) (J b - J a) x xd y yd (X c1) (XD c1) (Y c1) (YD c1) < 0
    · rw [if_pos k1]; exact ⟨fun q => absurd q (by decide), fun q => absurd k1 q.1⟩
    · rw [if_neg k1]
      by_cases k2 : c2 ≠ -1 ∧ 0 < cmpA (I b - I a) (J b - J a) x xd y yd (X c2) (XD c2) (Y c2) (YD c2)
      · rw [if_pos k2]; exact ⟨fun q => absurd q (by decide), fun q => absurd k2 q.2⟩
      · rw [if_neg k2]; exact ⟨fun _ => ⟨k1, k2⟩, fun _ => rfl⟩
  rw [hl]
  constructor
  · rintro ⟨k1, k2⟩ k k0 kn
    have ek := ln_eq hQ k
    have key : 0 ≤ xd * yd * rsE I J V a b k + alg (I b - I a) (J b - J a) x xd y yd * trE I J a b k := by
      rcases (show 0 < trE I J a b k ∨ trE I J a b k = 0 ∨ trE I J a b k < 0 by omega) with c | c | c
      · obtain ⟨p1, p2⟩ := a2 k k0 kn c
        have tl : 0 < trE I J a b l := by rcases a1 with s | s; exact absurd s p1; exact s
        have el := ln_eq hQ l
        have s1 := Int.mul_nonneg (Int.le_of_lt nn) (show 0 ≤ wP I J V x xd y yd l - wP I J V x xd y yd a by
          rcases (show 0 ≤ wP I J V x xd y yd l - wP I J V x xd y yd a ∨ wP I J V x xd y yd l < wP I J V x xd y yd a by omega) with s | s
          · exact s
          · exact absurd ⟨p1, s⟩ k1)
        rw [el] at s1
        have f1 : -(rsE I J V a b l) * (xd * yd) ≤ alg (I b - I a) (J b - J a) x xd y yd * trE I J a b l := by
          rw [Int.neg_mul, Int.mul_comm (rsE I J V a b l)]; omega
        have f2 := fr_tr c tl hD p2 f1
        rw [Int.neg_mul, Int.mul_comm (rsE I J V a b k)] at f2
        omega
      · rw [c, Int.mul_zero, Int.add_zero]
        have nb := hbd k k0 kn
        have r0 : 0 ≤ rsE I J V a b k := by
          rcases (show 0 ≤ rsE I J V a b k ∨ rsE I J V a b k < 0 by omega) with s | s
          · exact s
          · exact absurd ⟨c, Or.inl s⟩ nb
        exact Int.mul_nonneg (Int.le_of_lt hD) r0
      · obtain ⟨p1, p2⟩ := b2 k k0 kn c
        have tl : trE I J a b g < 0 := by rcases b1 with s | s; exact absurd s p1; exact s
        have el := ln_eq hQ g
        have s1 := Int.mul_nonneg (Int.le_of_lt nn) (show 0 ≤ wP I J V x xd y yd g - wP I J V x xd y yd a by
          rcases (show 0 ≤ wP I J V x xd y yd g - wP I J V x xd y yd a ∨ wP I J V x xd y yd g < wP I J V x xd y yd a by omega) with s | s
          · exact s
          · exact absurd ⟨p1, s⟩ k2)
        rw [el] at s1
        have f1 : alg (I b - I a) (J b - J a) x xd y yd * -(trE I J a b g) ≤ rsE I J V a b g * (xd * yd) := by
          rw [Int.mul_neg, Int.mul_comm (rsE I J V a b g)]; omega
        have f2 := fr_tr hD (show 0 < -(trE I J a b g) by omega) (show 0 < -(trE I J a b k) by omega) f1 p2
        rw [Int.mul_neg, Int.mul_comm (rsE I J V a b k)] at f2
        omega
    rw [← ek] at key
    have := Int.nonneg_of_mul_nonneg_right key nn
    omega
  · intro hk
    refine ⟨fun q => ?_, fun q => ?_⟩
    · obtain ⟨l0, l1, l2⟩ : 0 ≤ l ∧ l < n ∧ 0 < trE I J a b l := by rcases o1 with k | k; exact absurd k q.1; exact k
      have := hk l l0 l1
      omega
    · obtain ⟨l0, l1, l2⟩ : 0 ≤ g ∧ g < n ∧ trE I J a b g < 0 := by rcases o2 with k | k; exact absurd k q.1; exact k
      have := hk g l0 l1
      omega
end ME
