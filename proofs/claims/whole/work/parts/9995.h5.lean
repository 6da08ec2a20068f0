/-! GEOMETRY: both sides find the same meets -/
section MM
variable {n : Int} {I J V : Int → Int} {n2 : Int} {I2 J2 V2 : Int → Int}
def clE (n2 : Int) (I2 J2 V2 : Int → Int) (I J V : Int → Int) (e : EE) : Prop := (e.2.2.1 ≠ -1 → countS n2 I2 J2 V2 (cpX I J V e.1 e.2.1 e.2.2.1) (cpXD I J V e.1 e.2.1 e.2.2.1) (cpY I J V e.1 e.2.1 e.2.2.1) (cpYD I J V e.1 e.2.1 e.2.2.1) < 2) ∧ (e.2.2.2 ≠ -1 → countS n2 I2 J2 V2 (cpX I J V e.1 e.2.1 e.2.2.2) (cpXD I J V e.1 e.2.1 e.2.2.2) (cpY I J V e.1 e.2.1 e.2.2.2) (cpYD I J V e.1 e.2.1 e.2.2.2) < 2)
theorem tch_0' {m : Int} {X XD Y YD : Int → Int} (h : tchS n2 I2 J2 V2 m X XD Y YD = 0) : ∀ k, 0 ≤ k → k < m → countS n2 I2 J2 V2 (X k) (XD k) (Y k) (YD k) < 2 := by
  intro k k0 k1
  unfold tchS at h
  by_cases c : srch (fun k => decide (2 ≤ countS n2 I2 J2 V2 (X k) (XD k) (Y k) (YD k))) m.toNat 0 = -1
  · have := srch_no _ _ _ c (Int.le_refl _) k k0 (by omega)
    have := of_decide_eq_false this
    omega
  · rw [if_neg c] at h; exact absurd h (by decide)
theorem clE_ok (h : drOK n I J V) (hc : clS n I J V n2 I2 J2 V2 = 0) {i : Nat} {e : EE} (hi : (edL n I J V)[i]? = some e) : clE n2 I2 J2 V2 I J V e := by
  obtain ⟨-, -, -, h4⟩ := h
  obtain ⟨il, -⟩ := List.getElem?_eq_some_iff.mp hi
  obtain ⟨-, c1, c2⟩ := h4 (i : Int) (by omega) (by omega)
  obtain ⟨f1, f2, f3, f4⟩ := eFo_at hi
  rw [f1, f2, f3] at c1
  rw [f1, f2, f4] at c2
  unfold clS at hc
  have t := tch_0' hc
  refine ⟨fun q => ?_, fun q => ?_⟩
  · rcases c1 with ⟨-, k⟩ | ⟨-, -, ⟨k0, k1⟩, k2, k3, k4, k5⟩
    · exact absurd k q
    · have := t _ k0 k1; rw [k2, k3, k4, k5] at this; exact this
  · rcases c2 with ⟨-, k⟩ | ⟨-, -, ⟨k0, k1⟩, k2, k3, k4, k5⟩
    · exact absurd k q
    · have := t _ k0 k1; rw [k2, k3, k4, k5] at this; exact this
def dE (I J V : Int → Int) (s : CS) (i : Int) (e : EE) : Prop := cFO s i = e.1 ∧ cLA s i = e.2.1 ∧ atC (cX s) (cXD s) (cY s) (cYD s) I J V e.1 e.2.1 (cFI s i) e.2.2.1 ∧ atC (cX s) (cXD s) (cY s) (cYD s) I J V e.1 e.2.1 (cLS s i) e.2.2.2
theorem dE_ok (h : drOK n I J V) {i : Nat} {e : EE} (hi : (edL n I J V)[i]? = some e) : dE I J V (drwS n I J V) (i : Int) e := by
  obtain ⟨-, h2, h3, h4⟩ := h
  obtain ⟨il, -⟩ := List.getElem?_eq_some_iff.mp hi
  obtain ⟨⟨a1, a2⟩, c1, c2⟩ := h4 (i : Int) (by omega) (by omega)
  obtain ⟨f1, f2, f3, f4⟩ := eFo_at hi
  rw [f1, f2, f3] at c1
  rw [f1, f2, f4] at c2
  rw [f1] at a1
  rw [f2] at a2
  refine ⟨a1, a2, ?_, ?_⟩
  · rcases c1 with k | ⟨k, kk, ⟨k0, k1⟩, k2, k3, k4, k5⟩
    · exact Or.inl k
    · obtain ⟨⟨b1, b2, b3, b4⟩, -⟩ := h3 _ k0 k1
      exact Or.inr ⟨k, kk, b1.trans k2, b2.trans k3, b3.trans k4, b4.trans k5⟩
  · rcases c2 with k | ⟨k, kk, ⟨k0, k1⟩, k2, k3, k4, k5⟩
    · exact Or.inl k
    · obtain ⟨⟨b1, b2, b3, b4⟩, -⟩ := h3 _ k0 k1
      exact Or.inr ⟨k, kk, b1.trans k2, b2.trans k3, b3.trans k4, b4.trans k5⟩
/-- the point of two edges is on both lines -/
theorem mq_on {e o : EE} (hD : xD I J e I2 J2 o ≠ 0) : wP I J V (mqX I J V e I2 J2 V2 o) (mqXD I J V e I2 J2 V2 o) (mqY I J V e I2 J2 V2 o) (mqYD I J V e I2 J2 V2 o) e.2.1 = wP I J V (mqX I J V e I2 J2 V2 o) (mqXD I J V e I2 J2 V2 o) (mqY I J V e I2 J2 V2 o) (mqYD I J V e I2 J2 V2 o) e.1 ∧ wP I2 J2 V2 (mqX I J V e I2 J2 V2 o) (mqXD I J V e I2 J2 V2 o) (mqY I J V e I2 J2 V2 o) (mqYD I J V e I2 J2 V2 o) o.2.1 = wP I2 J2 V2 (mqX I J V e I2 J2 V2 o) (mqXD I J V e I2 J2 V2 o) (mqY I J V e I2 J2 V2 o) (mqYD I J V e I2 J2 V2 o) o.1 := by
  have h1 := rd_eq (x := xN1 J V e J2 V2 o) hD
  have h2 := rd_eq (x := xN2 I V e I2 V2 o) hD
  unfold mqX mqXD mqY mqYD
  generalize rdA (xN1 J V e J2 V2 o) (xD I J e I2 J2 o) = x at *
  generalize rdB (xN1 J V e J2 V2 o) (xD I J e I2 J2 o) = xd at *
  generalize rdA (xN2 I V e I2 V2 o) (xD I J e I2 J2 o) = y at *
  generalize rdB (xN2 I V e I2 V2 o) (xD I J e I2 J2 o) = yd at *
  have z : ∀ (p q w : Int), xN1 J V e J2 V2 o * p + xN2 I V e I2 V2 o * q + xD I J e I2 J2 o * w = 0 → p * x * yd + q * y * xd + w * (xd * yd) = 0 := by
    intro p q w hz
    have : xD I J e I2 J2 o * (p * x * yd + q * y * xd + w * (xd * yd)) = xd * yd * (xN1 J V e J2 V2 o * p + xN2 I V e I2 V2 o * q + xD I J e I2 J2 o * w) := by
      generalize xN1 J V e J2 V2 o = N1 at *
      generalize xN2 I V e I2 V2 o = N2 at *
      generalize xD I J e I2 J2 o = D at *
      have e1 : D * (p * x * yd + q * y * xd + w * (xd * yd)) = p * yd * (x * D) + q * xd * (y * D) + D * w * (xd * yd) := by grind
      rw [e1, h1, h2]; grind
    rw [hz, Int.mul_zero] at this
    rcases Int.mul_eq_zero.mp this with k | k
    · exact absurd k hD
    · exact k
  have z1 := z (I e.2.1 - I e.1) (J e.2.1 - J e.1) (V e.2.1 - V e.1) (by unfold xN1 xN2 xD; grind)
  have z2 := z (I2 o.2.1 - I2 o.1) (J2 o.2.1 - J2 o.1) (V2 o.2.1 - V2 o.1) (by unfold xN1 xN2 xD; grind)
  constructor
  · have : wP I J V x xd y yd e.2.1 - wP I J V x xd y yd e.1 = (I e.2.1 - I e.1) * x * yd + (J e.2.1 - J e.1) * y * xd + (V e.2.1 - V e.1) * (xd * yd) := by unfold wP wv; grind
    omega
  · have : wP I2 J2 V2 x xd y yd o.2.1 - wP I2 J2 V2 x xd y yd o.1 = (I2 o.2.1 - I2 o.1) * x * yd + (J2 o.2.1 - J2 o.1) * y * xd + (V2 o.2.1 - V2 o.1) * (xd * yd) := by unfold wP wv; grind
    omega
theorem lyX_mq {s s2 : CS} {i j : Int} {e o : EE} (h : dE I J V s i e) (h2 : dE I2 J2 V2 s2 j o) : crsE I J s i I2 J2 s2 j = xD I J e I2 J2 o ∧ lyX I J V s i I2 J2 V2 s2 j = mqX I J V e I2 J2 V2 o ∧ lyXD I J V s i I2 J2 V2 s2 j = mqXD I J V e I2 J2 V2 o ∧ lyY I J V s i I2 J2 V2 s2 j = mqY I J V e I2 J2 V2 o ∧ lyYD I J V s i I2 J2 V2 s2 j = mqYD I J V e I2 J2 V2 o := by
  obtain ⟨a1, a2, -⟩ := h
  obtain ⟨b1, b2, -⟩ := h2
  have c1 : crsE I J s i I2 J2 s2 j = xD I J e I2 J2 o := by unfold crsE pE xD; rw [a1, a2, b1, b2]
  have c2 : lE V s i * pE J2 s2 j - lE V2 s2 j * pE J s i = xN1 J V e J2 V2 o := by unfold lE pE xN1; rw [a1, a2, b1, b2]; grind
  have c3 : pE I s i * lE V2 s2 j - pE I2 s2 j * lE V s i = xN2 I V e I2 V2 o := by unfold lE pE xN2; rw [a1, a2, b1, b2]; grind
  refine ⟨c1, ?_, ?_, ?_, ?_⟩
  · unfold lyX mqX; rw [c1, c2]
  · unfold lyXD mqXD; rw [c1, c2]
  · unfold lyY mqY; rw [c1, c3]
  · unfold lyYD mqYD; rw [c1, c3]
theorem lyH_iff {s s2 : CS} {i j : Int} {e o : EE} (hR : FR n I J V) (hS : FS n I J) (hR2 : FR n2 I2 J2 V2) (hS2 : FS n2 I2 J2) (he : edOK n I J V e) (ho : edOK n2 I2 J2 V2 o) (h : dE I J V s i e) (h2 : dE I2 J2 V2 s2 j o) : lyH I J V s i I2 J2 V2 s2 j ↔ mHit n I J V n2 I2 J2 V2 e o := by
  obtain ⟨c1, c2, c3, c4, c5⟩ := lyX_mq h h2
  obtain ⟨a1, a2, a3, a4⟩ := h
  obtain ⟨b1, b2, b3, b4⟩ := h2
  have he' := he
  have ho' := ho
  obtain ⟨e0, e1, e2, e3⟩ := he'
  obtain ⟨o0, o1, o2, o3⟩ := ho'
  unfold lyH mHit hl1 hl2
  rw [c1, c2, c3, c4, c5]
  constructor
  · rintro ⟨k1, k2, k3⟩
    have hPB := m_PB hR hR2 he ho k1
    have hDD := Int.mul_pos (show 0 < mqXD I J V e I2 J2 V2 o by have := hPB.1; omega) (show 0 < mqYD I J V e I2 J2 V2 o by have := hPB.2; omega)
    obtain ⟨q1, q2⟩ := mq_on (V := V) (V2 := V2) k1
    unfold pE at k2 k3
    rw [a1, a2] at k2
    rw [b1, b2] at k3
    exact ⟨k1, (least_iff ⟨e0, by omega⟩).mpr ((hld_iff hR hS e0 e1 e2 e3 a3 a4 hDD q1).mp k2), (least_iff ⟨o0, by omega⟩).mpr ((hld_iff hR2 hS2 o0 o1 o2 o3 b3 b4 hDD q2).mp k3)⟩
  · rintro ⟨k1, k2, k3⟩
    have hPB := m_PB hR hR2 he ho k1
    have hDD := Int.mul_pos (show 0 < mqXD I J V e I2 J2 V2 o by have := hPB.1; omega) (show 0 < mqYD I J V e I2 J2 V2 o by have := hPB.2; omega)
    obtain ⟨q1, q2⟩ := mq_on (V := V) (V2 := V2) k1
    unfold pE
    rw [a1, a2, b1, b2]
    exact ⟨k1, (hld_iff hR hS e0 e1 e2 e3 a3 a4 hDD q1).mpr ((least_iff ⟨e0, by omega⟩).mp k2), (hld_iff hR2 hS2 o0 o1 o2 o3 b3 b4 hDD q2).mpr ((least_iff ⟨o0, by omega⟩).mp k3)⟩
theorem lyS_mm {s s2 : CS} {i j : Int} {e o : EE} {ms : MTS} (hR : FR n I J V) (hS : FS n I J) (hR2 : FR n2 I2 J2 V2) (hS2 : FS n2 I2 J2) (he : edOK n I J V e) (ho : edOK n2 I2 J2 V2 o) (h : dE I J V s i e) (h2 : dE I2 J2 V2 s2 j o) (hcap : (mmO n I J V n2 I2 J2 V2 e ms o).1 ≤ 128) : lyS I J V s i I2 J2 V2 s2 j ms = mmO n I J V n2 I2 J2 V2 e ms o := by
  have hi := lyH_iff hR hS hR2 hS2 he ho h h2
  obtain ⟨c1, c2, c3, c4, c5⟩ := lyX_mq (V := V) (V2 := V2) h h2
  by_cases k : mHit n I J V n2 I2 J2 V2 e o
  · rw [mmO_1 k] at hcap ⊢
    have hcap : ms.1 + 1 ≤ 128 := hcap
    unfold lyS
    rw [if_pos (hi.mpr k), c1, c2, c3, c4, c5]
    unfold notS
    rw [if_pos (by omega)]
    rfl
  · rw [mmO_0 k]
    unfold lyS
    rw [if_neg (fun q => k (hi.mp q))]
/-- two edges of one line -/
theorem par_ln {p q v p2 q2 v2 x xd y yd : Int} (hc : p * q2 - q * p2 = 0) (h1 : p * v2 = p2 * v) (h2 : q * v2 = q2 * v) (hp : 0 < p * p + q * q) (hz : p * x * yd + q * y * xd + v * (xd * yd) = 0) : p2 * x * yd + q2 * y * xd + v2 * (xd * yd) = 0 := by
  have e : (p * p + q * q) * (p2 * x * yd + q2 * y * xd + v2 * (xd * yd)) = (p * p2 + q * q2) * (p * x * yd + q * y * xd + v * (xd * yd)) := by
    have e1 : (p * p + q * q) * p2 = (p * p2 + q * q2) * p := by grind
    have e2 : (p * p + q * q) * q2 = (p * p2 + q * q2) * q := by grind
    have e3 : (p * p + q * q) * v2 = (p * p2 + q * q2) * v := by grind
    have e4 : (p * p + q * q) * (p2 * x * yd + q2 * y * xd + v2 * (xd * yd)) = ((p * p + q * q) * p2) * x * yd + ((p * p + q * q) * q2) * y * xd + ((p * p + q * q) * v2) * (xd * yd) := by grind
    rw [e4, e1, e2, e3]; grind
  rw [hz, Int.mul_zero] at e
  rcases Int.mul_eq_zero.mp e with k | k
  · omega
  · exact k
theorem par_alg {p q p2 q2 x xd y yd x' xd' y' yd' : Int} (hc : p * q2 - q * p2 = 0) (hp : 0 < ph p q) (hp2 : 0 < ph p2 q2) (hn : 0 < p * p + q * q) : alg p2 q2 x xd y yd * (xd' * yd') < alg p2 q2 x' xd' y' yd' * (xd * yd) ↔ alg p q x xd y yd * (xd' * yd') < alg p q x' xd' y' yd' * (xd * yd) := by
  have hM : 0 < p * p2 + q * q2 := by
    have e := dot_id p q p2 q2 (by unfold cr; exact hc)
    have := Int.mul_pos hp2 hn
    rw [← e] at this
    exact pos_l this hp
  have e1 : ∀ x xd y yd : Int, (p * p + q * q) * alg p2 q2 x xd y yd = (p * p2 + q * q2) * alg p q x xd y yd := by
    intro x xd y yd
    have f1 : (p * p + q * q) * p2 = (p * p2 + q * q2) * p := by grind
    have f2 : (p * p + q * q) * q2 = (p * p2 + q * q2) * q := by grind
    have : (p * p + q * q) * alg p2 q2 x xd y yd = ((p * p + q * q) * p2) * y * xd - ((p * p + q * q) * q2) * x * yd := by unfold alg; grind
    rw [this, f1, f2]; unfold alg; grind
  have a1 := e1 x xd y yd
  have a2 := e1 x' xd' y' yd'
  generalize alg p2 q2 x xd y yd = A at *
  generalize alg p2 q2 x' xd' y' yd' = A' at *
  generalize alg p q x xd y yd = B at *
  generalize alg p q x' xd' y' yd' = B' at *
  generalize p * p + q * q = N at *
  generalize p * p2 + q * q2 = M at *
  have key : N * (A' * (xd * yd) - A * (xd' * yd')) = M * (B' * (xd * yd) - B * (xd' * yd')) := by
    have : N * (A' * (xd * yd) - A * (xd' * yd')) = (N * A') * (xd * yd) - (N * A) * (xd' * yd') := by grind
    rw [this, a1, a2]; grind
  constructor
  · intro h
    have := Int.mul_pos hn (show 0 < A' * (xd * yd) - A * (xd' * yd') by omega)
    rw [key] at this
    have := pos_l this hM
    omega
  · intro h
    have := Int.mul_pos hM (show 0 < B' * (xd * yd) - B * (xd' * yd') by omega)
    rw [← key] at this
    have := pos_l this hn
    omega
/-- an end of an edge is not on the other edge: so it is before it, or behind -/
theorem out1 {a b l g c1 c2 x xd y yd : Int} {X XD Y YD : Int → Int} (hR : FR n I J V) (hS : FS n I J) (h0 : 0 ≤ a) (hab : a < b) (hb : b < n) (h : stF n I J V a b = some (l, g)) (hc1 : atC X XD Y YD I J V a b c1 l) (hc2 : atC X XD Y YD I J V a b c2 g) (hD : 0 < xd * yd) (hQ : wP I J V x xd y yd b = wP I J V x xd y yd a) (hcn : countS n I J V x xd y yd < 2) : (c1 ≠ -1 ∧ alg (I b - I a) (J b - J a) x xd y yd * (XD c1 * YD c1) < alg (I b - I a) (J b - J a) (X c1) (XD c1) (Y c1) (YD c1) * (xd * yd)) ∨ (c2 ≠ -1 ∧ alg (I b - I a) (J b - J a) (X c2) (XD c2) (Y c2) (YD c2) * (xd * yd) < alg (I b - I a) (J b - J a) x xd y yd * (XD c2 * YD c2)) := by
  have hi := hld_iff hR hS h0 hab hb h hc1 hc2 hD hQ
  by_cases k1 : c1 ≠ -1 ∧ cmpA (I b - I a) (J b - J a) x xd y yd (X c1) (XD c1) (Y c1) (YD c1) < 0
  · exact Or.inl ⟨k1.1, cmp_neg.1.mp k1.2⟩
  · by_cases k2 : c2 ≠ -1 ∧ 0 < cmpA (I b - I a) (J b - J a) x xd y yd (X c2) (XD c2) (Y c2) (YD c2)
    · exact Or.inr ⟨k2.1, cmp_neg.2.mp k2.2⟩
    · exfalso
      have hh : hldS (I b - I a) (J b - J a) x xd y yd c1 c2 X XD Y YD = 1 := by unfold hldS; rw [if_neg k1, if_neg k2]
      have hl := hi.mp hh
      have la := (least_iff (V := V) (x := x) (xd := xd) (y := y) (yd := yd) ⟨h0, Int.lt_trans hab hb⟩).mpr hl
      have lb : wP I J V x xd y yd b = leastS n I J V x xd y yd := hQ.trans la
      have := cnt_2 (p := fun t => decide (wv (I t) (J t) (V t) x xd y yd = leastS n I J V x xd y yd)) n.toNat 0 a b h0 hab (by omega) (decide_eq_true la) (decide_eq_true lb)
      unfold countS at hcn
      omega
theorem bgn_1 {p q a b : Int} {X XD Y YD X2 XD2 Y2 YD2 : Int → Int} (h : bgnS p q a b X XD Y YD X2 XD2 Y2 YD2 = 1) (ha : a ≠ -1) (hb : b ≠ -1) : alg p q (X a) (XD a) (Y a) (YD a) * (XD2 b * YD2 b) < alg p q (X2 b) (XD2 b) (Y2 b) (YD2 b) * (XD a * YD a) := by
  unfold bgnS at h
  rw [if_neg (by omega)] at h
  by_cases k : cmpA p q (X a) (XD a) (Y a) (YD a) (X2 b) (XD2 b) (Y2 b) (YD2 b) < 0
  · exact cmp_neg.1.mp k
  · rw [if_neg k] at h; exact absurd h (by decide)
/-- where an end is, and that it is on the line -/
theorem at_on {a b l g c t : Int} {X XD Y YD : Int → Int} (hR : FR n I J V) (h0 : 0 ≤ a) (hab : a < b) (hb : b < n) (h : stF n I J V a b = some (l, g)) (ht : t = l ∨ t = g) (hc : atC X XD Y YD I J V a b c t) (hn : c ≠ -1) : t ≠ -1 ∧ 0 < XD c * YD c ∧ wP I J V (X c) (XD c) (Y c) (YD c) b = wP I J V (X c) (XD c) (Y c) (YD c) a ∧ X c = cpX I J V a b t ∧ XD c = cpXD I J V a b t ∧ Y c = cpY I J V a b t ∧ YD c = cpYD I J V a b t := by
  rcases hc with ⟨k, -⟩ | ⟨-, k, q1, q2, q3, q4⟩
  · exact absurd k hn
  · obtain ⟨o1, o2⟩ := stF_ok (by omega) h
    have r : (0 ≤ t ∧ t < n) ∧ trE I J a b t ≠ 0 := by
      rcases ht with e | e
      · rw [e] at k ⊢
        rcases o1 with s | s
        · exact absurd s k
        · exact ⟨⟨s.1, s.2.1⟩, by have := s.2.2; omega⟩
      · rw [e] at k ⊢
        rcases o2 with s | s
        · exact absurd s k
        · exact ⟨⟨s.1, s.2.1⟩, by have := s.2.2; omega⟩
    have z := (cn_ln (V := V) hR ⟨h0, Int.lt_trans hab hb⟩ ⟨by omega, hb⟩ r.1 r.2).1
    have d := cp_pos (V := V) hR ⟨h0, Int.lt_trans hab hb⟩ ⟨by omega, hb⟩ r.1 r.2
    rw [q1, q2, q3, q4]
    exact ⟨k, d, z, rfl, rfl, rfl, rfl⟩
theorem lyB_iff {s s2 : CS} {i j : Int} {e o : EE} (hR : FR n I J V) (hS : FS n I J) (hR2 : FR n2 I2 J2 V2) (hS2 : FS n2 I2 J2) (he : edOK n I J V e) (ho : edOK n2 I2 J2 V2 o) (h : dE I J V s i e) (h2 : dE I2 J2 V2 s2 j o) (hc : clE n2 I2 J2 V2 I J V e) (hc2 : clE n I J V I2 J2 V2 o) : lyB I J V s i I2 J2 V2 s2 j ↔ badP I J V I2 J2 V2 e o := by
  obtain ⟨c1, -⟩ := lyX_mq (V := V) (V2 := V2) h h2
  obtain ⟨a1, a2, a3, a4⟩ := h
  obtain ⟨b1, b2, b3, b4⟩ := h2
  obtain ⟨e0, e1, e2, e3⟩ := he
  obtain ⟨o0, o1, o2, o3⟩ := ho
  unfold lyB badP ovlE
  rw [c1]
  unfold pE lE
  rw [a1, a2, b1, b2]
  have ln : ∀ p p2 va vb va2 vb2 : Int, p * (va2 - vb2) = p2 * (va - vb) ↔ p * (vb2 - va2) = p2 * (vb - va) := by
    intro p p2 va vb va2 vb2
    rw [show va2 - vb2 = -(vb2 - va2) by omega, show va - vb = -(vb - va) by omega, Int.mul_neg, Int.mul_neg]
    omega
  have kn : ∀ l g : Int, knd l g = 3 ↔ l = -1 ∧ g = -1 := by intro l g; unfold knd; split <;> (try split) <;> omega
  rw [kn, kn]
  have pp : 0 < ph (I e.2.1 - I e.1) (J e.2.1 - J e.1) := ph_lex hR hS e0 e1 e2
  have pp2 : 0 < ph (I2 o.2.1 - I2 o.1) (J2 o.2.1 - J2 o.1) := ph_lex hR2 hS2 o0 o1 o2
  have nn := pq_pos (hS e.1 e.2.1 e0 e1 e2)
  have nn2 := pq_pos (hS2 o.1 o.2.1 o0 o1 o2)
  have wd : ∀ (I J V : Int → Int) (x xd y yd a b : Int), wP I J V x xd y yd b = wP I J V x xd y yd a ↔ (I b - I a) * x * yd + (J b - J a) * y * xd + (V b - V a) * (xd * yd) = 0 := by
    intro I J V x xd y yd a b
    have : (I b - I a) * x * yd + (J b - J a) * y * xd + (V b - V a) * (xd * yd) = wP I J V x xd y yd b - wP I J V x xd y yd a := by unfold wP wv; grind
    omega
  have cm : ∀ {c l : Int} {X XD Y YD I J V : Int → Int} {a b : Int}, atC X XD Y YD I J V a b c l → (c = -1 ↔ l = -1) := by
    intro c l X XD Y YD I J V a b k
    rcases k with ⟨k1, k2⟩ | ⟨k1, k2, -⟩
    · exact ⟨fun _ => k2, fun _ => k1⟩
    · exact ⟨fun q => absurd q k1, fun q => absurd q k2⟩
  have m1 := cm a3
  have m2 := cm a4
  have m3 := cm b3
  have m4 := cm b4
  constructor
  · rintro ⟨k1, ⟨k2, k3⟩, k4⟩
    replace k2 := (ln _ _ _ _ _ _).mp k2
    replace k3 := (ln _ _ _ _ _ _).mp k3
    have hx : (I e.2.1 - I e.1) * (J2 o.2.1 - J2 o.1) - (J e.2.1 - J e.1) * (I2 o.2.1 - I2 o.1) = 0 := k1
    have hx2 : (I2 o.2.1 - I2 o.1) * (J e.2.1 - J e.1) - (J2 o.2.1 - J2 o.1) * (I e.2.1 - I e.1) = 0 := by
      have : (I2 o.2.1 - I2 o.1) * (J e.2.1 - J e.1) - (J2 o.2.1 - J2 o.1) * (I e.2.1 - I e.1) = -((I e.2.1 - I e.1) * (J2 o.2.1 - J2 o.1) - (J e.2.1 - J e.1) * (I2 o.2.1 - I2 o.1)) := by grind
      omega
    have ov : ∀ {x y : Int} {P : Prop} [Decidable P], (if P then (1 : Int) else 0) = 1 → P := by
      intro x y P _ hh
      by_cases k : P
      · exact k
      · rw [if_neg k] at hh; exact absurd hh (by decide)
    obtain ⟨v1, v2⟩ := ov (x := 0) (y := 0) k4
    have conv : ∀ {x xd y yd x' xd' y' yd' : Int}, alg (I2 o.2.1 - I2 o.1) (J2 o.2.1 - J2 o.1) x xd y yd * (xd' * yd') < alg (I2 o.2.1 - I2 o.1) (J2 o.2.1 - J2 o.1) x' xd' y' yd' * (xd * yd) ↔ alg (I e.2.1 - I e.1) (J e.2.1 - J e.1) x xd y yd * (xd' * yd') < alg (I e.2.1 - I e.1) (J e.2.1 - J e.1) x' xd' y' yd' * (xd * yd) := par_alg hx pp pp2 nn
    have on2 : ∀ {x xd y yd : Int}, wP I J V x xd y yd e.2.1 = wP I J V x xd y yd e.1 → wP I2 J2 V2 x xd y yd o.2.1 = wP I2 J2 V2 x xd y yd o.1 := by
      intro x xd y yd hh
      rw [wd] at hh ⊢
      exact par_ln hx k2 k3 nn hh
    have on1 : ∀ {x xd y yd : Int}, wP I2 J2 V2 x xd y yd o.2.1 = wP I2 J2 V2 x xd y yd o.1 → wP I J V x xd y yd e.2.1 = wP I J V x xd y yd e.1 := by
      intro x xd y yd hh
      rw [wd] at hh ⊢
      exact par_ln hx2 k2.symm k3.symm nn2 hh
    have F1 : ∀ {c t : Int}, (t = e.2.2.1 ∨ t = e.2.2.2) → atC (cX s) (cXD s) (cY s) (cYD s) I J V e.1 e.2.1 c t → c ≠ -1 → _ := fun {c t} ht hat hcn => by
      obtain ⟨q0, q1, q2, q3, q4, q5, q6⟩ := at_on hR e0 e1 e2 e3 ht hat hcn
      have hct : countS n2 I2 J2 V2 (cX s c) (cXD s c) (cY s c) (cYD s c) < 2 := by
        rw [q3, q4, q5, q6]
        rcases ht with z | z
        · rw [z] at q0 ⊢; exact hc.1 q0
        · rw [z] at q0 ⊢; exact hc.2 q0
      exact out1 hR2 hS2 o0 o1 o2 o3 b3 b4 q1 (on2 q2) hct
    have F2 : ∀ {c t : Int}, (t = o.2.2.1 ∨ t = o.2.2.2) → atC (cX s2) (cXD s2) (cY s2) (cYD s2) I2 J2 V2 o.1 o.2.1 c t → c ≠ -1 → _ := fun {c t} ht hat hcn => by
      obtain ⟨q0, q1, q2, q3, q4, q5, q6⟩ := at_on hR2 o0 o1 o2 o3 ht hat hcn
      have hct : countS n I J V (cX s2 c) (cXD s2 c) (cY s2 c) (cYD s2 c) < 2 := by
        rw [q3, q4, q5, q6]
        rcases ht with z | z
        · rw [z] at q0 ⊢; exact hc2.1 q0
        · rw [z] at q0 ⊢; exact hc2.2 q0
      exact out1 hR hS e0 e1 e2 e3 a3 a4 q1 (on1 q2) hct
    simp only [conv] at F1
    have i1 := fun x y => bgn_1 v1 x y
    have i2 := fun x y => conv.mp (bgn_1 v2 x y)
    have z1 : cFI s i = -1 := by
      by_cases c : cFI s i = -1
      · exact c
      · rcases F1 (Or.inl rfl) a3 c with ⟨u1, u2⟩ | ⟨u1, u2⟩
        · rcases F2 (Or.inl rfl) b3 u1 with ⟨t1, t2⟩ | ⟨t1, t2⟩
          · omega
          · have := i2 u1 t1; omega
        · have := i1 c u1; omega
    have z3 : cFI s2 j = -1 := by
      by_cases c : cFI s2 j = -1
      · exact c
      · rcases F2 (Or.inl rfl) b3 c with ⟨u1, u2⟩ | ⟨u1, u2⟩
        · exact absurd z1 u1
        · have := i2 c u1; omega
    have z2 : cLS s i = -1 := by
      by_cases c : cLS s i = -1
      · exact c
      · rcases F1 (Or.inr rfl) a4 c with ⟨u1, u2⟩ | ⟨u1, u2⟩
        · exact absurd z3 u1
        · rcases F2 (Or.inr rfl) b4 u1 with ⟨t1, t2⟩ | ⟨t1, t2⟩
          · exact absurd z1 t1
          · omega
    have z4 : cLS s2 j = -1 := by
      by_cases c : cLS s2 j = -1
      · exact c
      · rcases F2 (Or.inr rfl) b4 c with ⟨u1, u2⟩ | ⟨u1, u2⟩
        · exact absurd z1 u1
        · exact absurd z2 u1
    exact ⟨k1, ⟨m1.mp z1, m2.mp z2⟩, ⟨m3.mp z3, m4.mp z4⟩, k2, k3⟩
  · rintro ⟨k1, ⟨l1, l2⟩, ⟨l3, l4⟩, k2, k3⟩
    refine ⟨k1, ⟨(ln _ _ _ _ _ _).mpr k2, (ln _ _ _ _ _ _).mpr k3⟩, ?_⟩
    have z1 := m1.mpr l1
    have z3 := m3.mpr l3
    unfold bgnS
    rw [if_pos (Or.inl z1), if_pos (Or.inl z3)]
    rfl
end MM
