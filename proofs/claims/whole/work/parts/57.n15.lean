/-! THE REFERENCE: THE MEETS -/
def xD (I J : Int → Int) (e : EE) (I2 J2 : Int → Int) (o : EE) : Int := (I e.2.1 - I e.1) * (J2 o.2.1 - J2 o.1) - (J e.2.1 - J e.1) * (I2 o.2.1 - I2 o.1)
def xN1 (J V : Int → Int) (e : EE) (J2 V2 : Int → Int) (o : EE) : Int := (J e.2.1 - J e.1) * (V2 o.2.1 - V2 o.1) - (V e.2.1 - V e.1) * (J2 o.2.1 - J2 o.1)
def xN2 (I V : Int → Int) (e : EE) (I2 V2 : Int → Int) (o : EE) : Int := (V e.2.1 - V e.1) * (I2 o.2.1 - I2 o.1) - (I e.2.1 - I e.1) * (V2 o.2.1 - V2 o.1)
def mqX (I J V : Int → Int) (e : EE) (I2 J2 V2 : Int → Int) (o : EE) : Int := rdA (xN1 J V e J2 V2 o) (xD I J e I2 J2 o)
def mqXD (I J V : Int → Int) (e : EE) (I2 J2 V2 : Int → Int) (o : EE) : Int := rdB (xN1 J V e J2 V2 o) (xD I J e I2 J2 o)
def mqY (I J V : Int → Int) (e : EE) (I2 J2 V2 : Int → Int) (o : EE) : Int := rdA (xN2 I V e I2 V2 o) (xD I J e I2 J2 o)
def mqYD (I J V : Int → Int) (e : EE) (I2 J2 V2 : Int → Int) (o : EE) : Int := rdB (xN2 I V e I2 V2 o) (xD I J e I2 J2 o)
/-- both edges hold the point -/
def mHit (n : Int) (I J V : Int → Int) (n2 : Int) (I2 J2 V2 : Int → Int)  (e o : EE) : Prop := xD I J e I2 J2 o ≠ 0 ∧ wv (I e.1) (J e.1) (V e.1) (mqX I J V e I2 J2 V2 o) (mqXD I J V e I2 J2 V2 o) (mqY I J V e I2 J2 V2 o) (mqYD I J V e I2 J2 V2 o) = leastS n I J V (mqX I J V e I2 J2 V2 o) (mqXD I J V e I2 J2 V2 o) (mqY I J V e I2 J2 V2 o) (mqYD I J V e I2 J2 V2 o) ∧ wv (I2 o.1) (J2 o.1) (V2 o.1) (mqX I J V e I2 J2 V2 o) (mqXD I J V e I2 J2 V2 o) (mqY I J V e I2 J2 V2 o) (mqYD I J V e I2 J2 V2 o) = leastS n2 I2 J2 V2 (mqX I J V e I2 J2 V2 o) (mqXD I J V e I2 J2 V2 o) (mqY I J V e I2 J2 V2 o) (mqYD I J V e I2 J2 V2 o)
def ab1 (x : Int) : Int := if 0 ≤ x then x else -x
noncomputable def mmO (n : Int) (I J V : Int → Int) (n2 : Int) (I2 J2 V2 : Int → Int)  (e : EE) (ms : MTS) (o : EE) : MTS := @ite _ (mHit n I J V n2 I2 J2 V2 e o) (Classical.propDecidable _) (notU ms (mqX I J V e I2 J2 V2 o) (mqXD I J V e I2 J2 V2 o) (mqY I J V e I2 J2 V2 o) (mqYD I J V e I2 J2 V2 o) (ab1 (xD I J e I2 J2 o))) ms
theorem mmO_1 {n : Int} {I J V : Int → Int} {n2 : Int} {I2 J2 V2 : Int → Int} {e o : EE} {ms : MTS} (h : mHit n I J V n2 I2 J2 V2 e o) : mmO n I J V n2 I2 J2 V2 e ms o = notU ms (mqX I J V e I2 J2 V2 o) (mqXD I J V e I2 J2 V2 o) (mqY I J V e I2 J2 V2 o) (mqYD I J V e I2 J2 V2 o) (ab1 (xD I J e I2 J2 o)) := by unfold mmO; exact @if_pos _ (Classical.propDecidable _) h _ _ _
theorem mmO_0 {n : Int} {I J V : Int → Int} {n2 : Int} {I2 J2 V2 : Int → Int} {e o : EE} {ms : MTS} (h : ¬ mHit n I J V n2 I2 J2 V2 e o) : mmO n I J V n2 I2 J2 V2 e ms o = ms := by unfold mmO; exact @if_neg _ (Classical.propDecidable _) h _ _ _
noncomputable def mmE (n : Int) (I J V : Int → Int) (n2 : Int) (I2 J2 V2 : Int → Int)  (Lb : List EE) (ms : MTS) (e : EE) : MTS := Lb.foldl (mmO n I J V n2 I2 J2 V2 e) ms
noncomputable def meetsM (n : Int) (I J V : Int → Int) (n2 : Int) (I2 J2 V2 : Int → Int)  (La Lb : List EE) : MTS := La.foldl (mmE n I J V n2 I2 J2 V2 Lb) m00
def badP (I J V : Int → Int) (I2 J2 V2 : Int → Int) (e o : EE) : Prop := xD I J e I2 J2 o = 0 ∧ knd e.2.2.1 e.2.2.2 = 3 ∧ knd o.2.2.1 o.2.2.2 = 3 ∧ (I e.2.1 - I e.1) * (V2 o.2.1 - V2 o.1) = (I2 o.2.1 - I2 o.1) * (V e.2.1 - V e.1) ∧ (J e.2.1 - J e.1) * (V2 o.2.1 - V2 o.1) = (J2 o.2.1 - J2 o.1) * (V e.2.1 - V e.1)
noncomputable def wqO (I J V : Int → Int) (I2 J2 V2 : Int → Int) (e : EE) (x : Int) (o : EE) : Int := @ite _ (badP I J V I2 J2 V2 e o) (Classical.propDecidable _) 0 x
theorem wqO_1 {I J V : Int → Int} {I2 J2 V2 : Int → Int} {e o : EE} {x : Int} (h : badP I J V I2 J2 V2 e o) : wqO I J V I2 J2 V2 e x o = 0 := by unfold wqO; exact @if_pos _ (Classical.propDecidable _) h _ _ _
theorem wqO_0 {I J V : Int → Int} {I2 J2 V2 : Int → Int} {e o : EE} {x : Int} (h : ¬ badP I J V I2 J2 V2 e o) : wqO I J V I2 J2 V2 e x o = x := by unfold wqO; exact @if_neg _ (Classical.propDecidable _) h _ _ _
theorem wqO_z {I J V : Int → Int} {I2 J2 V2 : Int → Int} {e o : EE} : wqO I J V I2 J2 V2 e 0 o = 0 := by
  by_cases h : badP I J V I2 J2 V2 e o
  · exact wqO_1 h
  · exact wqO_0 h
noncomputable def wqE (I J V : Int → Int) (I2 J2 V2 : Int → Int) (Lb : List EE) (x : Int) (e : EE) : Int := Lb.foldl (wqO I J V I2 J2 V2 e) x
noncomputable def wellM (I J V : Int → Int) (I2 J2 V2 : Int → Int) (La Lb : List EE) : Int := La.foldl (wqE I J V I2 J2 V2 Lb) 1
theorem mmO_len {n : Int} {I J V : Int → Int} {n2 : Int} {I2 J2 V2 : Int → Int} {e o : EE} {ms : MTS} : ms.1 ≤ (mmO n I J V n2 I2 J2 V2 e ms o).1 := by
  by_cases h : mHit n I J V n2 I2 J2 V2 e o
  · rw [mmO_1 h]; show ms.1 ≤ ms.1 + 1; omega
  · rw [mmO_0 h]; exact Int.le_refl _
theorem mmF_len {n : Int} {I J V : Int → Int} {n2 : Int} {I2 J2 V2 : Int → Int} {e : EE} : ∀ (L : List EE) (ms : MTS), ms.1 ≤ (L.foldl (mmO n I J V n2 I2 J2 V2 e) ms).1
  | [], _ => Int.le_refl _
  | o :: r, ms => Int.le_trans mmO_len (mmF_len r _)
theorem mmG_len {n : Int} {I J V : Int → Int} {n2 : Int} {I2 J2 V2 : Int → Int} {Lb : List EE} : ∀ (L : List EE) (ms : MTS), ms.1 ≤ (L.foldl (mmE n I J V n2 I2 J2 V2 Lb) ms).1
  | [], _ => Int.le_refl _
  | e :: r, ms => Int.le_trans (mmF_len Lb ms) (mmG_len r _)
theorem sz_eq {p q s t g1 g2 dx dy ex ey : Int} (hp : g1 * dy = p) (hq : g1 * dx = -q) (hs : g2 * ey = s) (ht : g2 * ex = -t) : p * t - q * s = g1 * g2 * (dx * ey - dy * ex) := by
  rw [← hp, show q = -(g1 * dx) by omega, ← hs, show t = -(g2 * ex) by omega]; grind
theorem sz_ab {D g1 g2 z : Int} (h1 : 0 < g1) (h2 : 0 < g2) (h : D = g1 * g2 * z) : (z = 0 ↔ D = 0) ∧ (z < 0 → -z * g1 * g2 = ab1 D) ∧ (0 ≤ z → z * g1 * g2 = ab1 D) := by
  have hg := Int.mul_pos h1 h2
  have e1 : z * g1 * g2 = D := by rw [h]; grind
  have e2 : -z * g1 * g2 = -D := by rw [h]; grind
  rw [e1, e2]
  unfold ab1
  have sg := sgn_g hg h.symm
  refine ⟨sg.2.1, fun q => ?_, fun q => ?_⟩
  · have := sg.2.2.mp q; rw [if_neg (by omega)]
  · by_cases k : z = 0
    · have := sg.2.1.mp k; rw [if_pos (by omega)]
    · have := sg.1.mp (by omega); rw [if_pos (by omega)]
theorem MM_fr {z z' z2 z2' : ZM} {s : MTS} (h : MM z z2 s) (h43 : z' 184 43 = z 184 43) (hz : z' 213 = z 213) (hz2 : z2' 212 = z2 212) : MM z' z2' s := by
  unfold MM at *; rw [h43, hz, hz2]; exact h
theorem frQL_M {z' z : ZM} (h : frML z' z) : frQL z' z := ⟨fun c a b e g => h c b g, fun k a => by rw [h 184 (by decide) (by decide)]⟩
theorem dif_b {n : Int} {I J V : Int → Int} (hR : FR n I J V) {a b : Int} (ha : 0 ≤ a ∧ a < n) (hb : 0 ≤ b ∧ b < n) : (-8 ≤ I b - I a ∧ I b - I a ≤ 8) ∧ (-8 ≤ J b - J a ∧ J b - J a ≤ 8) ∧ (-400 ≤ V b - V a ∧ V b - V a ≤ 400) := by
  have h1 := hR.2.2 a ha.1 ha.2
  have h2 := hR.2.2 b hb.1 hb.2
  omega
theorem pr_b {p q r s t u : Int} (i1 : -8 ≤ p ∧ p ≤ 8) (i2 : -8 ≤ q ∧ q ≤ 8) (i3 : -400 ≤ r ∧ r ≤ 400) (i4 : -8 ≤ s ∧ s ≤ 8) (i5 : -8 ≤ t ∧ t ≤ 8) (i6 : -400 ≤ u ∧ u ≤ 400) : (-128 ≤ p * t - q * s ∧ p * t - q * s ≤ 128) ∧ (-6400 ≤ q * u - r * t ∧ q * u - r * t ≤ 6400) ∧ (-6400 ≤ r * s - p * u ∧ r * s - p * u ≤ 6400) := by
  have m1 := mb i1.1 i1.2 i5.1 i5.2
  have m2 := mb i2.1 i2.2 i4.1 i4.2
  have m3 := mb i2.1 i2.2 i6.1 i6.2
  have m4 := mb i3.1 i3.2 i5.1 i5.2
  have m5 := mb i3.1 i3.2 i4.1 i4.2
  have m6 := mb i1.1 i1.2 i6.1 i6.2
  omega
theorem m_PB {n n2 : Int} {I J V I2 J2 V2 : Int → Int} (hR : FR n I J V) (hR2 : FR n2 I2 J2 V2) {e o : EE} (he : edOK n I J V e) (ho : edOK n2 I2 J2 V2 o) (hD : xD I J e I2 J2 o ≠ 0) : PB (mqX I J V e I2 J2 V2 o) (mqXD I J V e I2 J2 V2 o) (mqY I J V e I2 J2 V2 o) (mqYD I J V e I2 J2 V2 o) := by
  obtain ⟨e1, e2, e3, -⟩ := he
  obtain ⟨o1, o2, o3, -⟩ := ho
  obtain ⟨a1, a2, a3⟩ := dif_b hR ⟨e1, Int.lt_trans e2 e3⟩ ⟨Int.le_of_lt (Int.lt_of_le_of_lt e1 e2), e3⟩
  obtain ⟨b1', b2', b3'⟩ := dif_b hR2 ⟨o1, Int.lt_trans o2 o3⟩ ⟨Int.le_of_lt (Int.lt_of_le_of_lt o1 o2), o3⟩
  obtain ⟨c1, c2, c3⟩ := pr_b a1 a2 a3 b1' b2' b3'
  have r1 := rd_b c2 c1 hD
  have r2 := rd_b c3 c1 hD
  exact ⟨⟨r1.1.1, r1.1.2, r1.2.1, r1.2.2⟩, r2.1.1, r2.1.2, r2.2.1, r2.2.2⟩
theorem notU_R {s : MTS} {x xd y yd ct : Int} (h : MMR s) (hB : PB x xd y yd) : MMR (notU s x xd y yd ct) := by
  have hb := skS_b s.1 s.2.1 s.2.2.1 s.2.2.2.1 s.2.2.2.2.1 x xd y yd h.1
  exact PsR_ins h hb.1 hb.2 hB
