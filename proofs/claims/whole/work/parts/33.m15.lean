/-! CURVES: the stretch where two TERMS are least -/
/-- on which side of the line of a and b a term is -/
def trE (I J : Int → Int) (a b k : Int) : Int := (I b - I a) * (J k - J a) - (J b - J a) * (I k - I a)
/-- how far it is above them -/
def rsE (I J V : Int → Int) (a b k : Int) : Int := (V a - V b) * ((I k - I a) * (I b - I a) + (J k - J a) * (J b - J a)) + (V k - V a) * ((I b - I a) * (I b - I a) + (J b - J a) * (J b - J a))
def lwU (I J V : Int → Int) (a b l k : Int) : Int := if l = -1 ∨ -(rsE I J V a b l) * trE I J a b k < -(rsE I J V a b k) * trE I J a b l then k else l
def hgU (I J V : Int → Int) (a b g k : Int) : Int := if g = -1 ∨ rsE I J V a b k * -(trE I J a b g) < rsE I J V a b g * -(trE I J a b k) then k else g
abbrev emE (I J V : Int → Int) (a b l g : Int) : Prop := l ≠ -1 ∧ g ≠ -1 ∧ rsE I J V a b g * trE I J a b l ≤ -(rsE I J V a b l) * -(trE I J a b g)
abbrev bdE (I J V : Int → Int) (a b k : Int) : Prop := trE I J a b k = 0 ∧ (rsE I J V a b k < 0 ∨ (rsE I J V a b k = 0 ∧ (k < a ∨ b < k)))
def stL (I J V : Int → Int) (a b l k : Int) : Int := if 0 < trE I J a b k then lwU I J V a b l k else l
def stG (I J V : Int → Int) (a b g k : Int) : Int := if trE I J a b k < 0 then hgU I J V a b g k else g
def stW (I J V : Int → Int) (a b : Int) : Nat → Int → Int → Int → Option (Int × Int)
  | 0, _, l, g => some (l, g)
  | f + 1, k, l, g => if bdE I J V a b k then none else if emE I J V a b (stL I J V a b l k) (stG I J V a b g k) then none else stW I J V a b f (k + 1) (stL I J V a b l k) (stG I J V a b g k)
/-- the terms that bound the stretch of a and b; none: there is no stretch -/
def stF (n : Int) (I J V : Int → Int) (a b : Int) : Option (Int × Int) := stW I J V a b n.toNat 0 (-1) (-1)
theorem stW_s {I J V : Int → Int} {a b n k l g : Int} (h : k < n) : stW I J V a b (n - k).toNat k l g = if bdE I J V a b k then none else if emE I J V a b (stL I J V a b l k) (stG I J V a b g k) then none else stW I J V a b (n - (k + 1)).toNat (k + 1) (stL I J V a b l k) (stG I J V a b g k) := by
  rw [show (n - k).toNat = (n - (k + 1)).toNat + 1 by omega]; rfl
theorem stW_e {I J V : Int → Int} {a b n k l g : Int} (h : n ≤ k) : stW I J V a b (n - k).toNat k l g = some (l, g) := by rw [show (n - k).toNat = 0 by omega]; rfl
theorem sq_b {x : Int} (h : -8 ≤ x ∧ x ≤ 8) : 0 ≤ x * x ∧ x * x ≤ 64 := by
  have h1 := mb (a := x) (b := x) (A := 8) (B := 8) h.1 h.2 h.1 h.2
  have h2 : x * x = ((x.natAbs * x.natAbs : Nat) : Int) := (Int.natAbs_mul_self' x).symm ▸ (by simp)
  omega
theorem trE_b {n : Int} {I J V : Int → Int} (hR : FR n I J V) {a b k : Int} (ha : 0 ≤ a ∧ a < n) (hb : 0 ≤ b ∧ b < n) (hk : 0 ≤ k ∧ k < n) : -128 ≤ trE I J a b k ∧ trE I J a b k ≤ 128 := by
  have h1 := hR.2.2 a ha.1 ha.2
  have h2 := hR.2.2 b hb.1 hb.2
  have h3 := hR.2.2 k hk.1 hk.2
  have a1 := mb (a := I b - I a) (b := J k - J a) (A := 8) (B := 8) (by omega) (by omega) (by omega) (by omega)
  have a2 := mb (a := J b - J a) (b := I k - I a) (A := 8) (B := 8) (by omega) (by omega) (by omega) (by omega)
  unfold trE; omega
theorem rsE_b {n : Int} {I J V : Int → Int} (hR : FR n I J V) {a b k : Int} (ha : 0 ≤ a ∧ a < n) (hb : 0 ≤ b ∧ b < n) (hk : 0 ≤ k ∧ k < n) : -102400 ≤ rsE I J V a b k ∧ rsE I J V a b k ≤ 102400 := by
  have h1 := hR.2.2 a ha.1 ha.2
  have h2 := hR.2.2 b hb.1 hb.2
  have h3 := hR.2.2 k hk.1 hk.2
  have a1 := mb (a := I k - I a) (b := I b - I a) (A := 8) (B := 8) (by omega) (by omega) (by omega) (by omega)
  have a2 := mb (a := J k - J a) (b := J b - J a) (A := 8) (B := 8) (by omega) (by omega) (by omega) (by omega)
  have a3 := sq_b (x := I b - I a) (by omega)
  have a4 := sq_b (x := J b - J a) (by omega)
  have a5 := mb (a := V a - V b) (b := (I k - I a) * (I b - I a) + (J k - J a) * (J b - J a)) (A := 400) (B := 128) (by omega) (by omega) (by omega) (by omega)
  have a6 := mb (a := V k - V a) (b := (I b - I a) * (I b - I a) + (J b - J a) * (J b - J a)) (A := 400) (B := 128) (by omega) (by omega) (by omega) (by omega)
  unfold rsE; omega
/-- what the curve's cell says of the bounds -/
def BH (z : ZM) (c : Nat) (n : Int) (I J V : Int → Int) (a b l g : Int) : Prop :=
  ((l = -1 ∧ z c 10 = 0) ∨ (0 ≤ l ∧ l < n ∧ 0 < trE I J a b l ∧ z c 9 = -(rsE I J V a b l) ∧ z c 10 = trE I J a b l)) ∧
  ((g = -1 ∧ z c 12 = 0) ∨ (0 ≤ g ∧ g < n ∧ trE I J a b g < 0 ∧ z c 11 = rsE I J V a b g ∧ z c 12 = -(trE I J a b g)))
theorem BH_low {z z2 : ZM} {c : Nat} {n : Int} {I J V : Int → Int} {a b l g k : Int} (h : BH z c n I J V a b l g) (hk : 0 ≤ k ∧ k < n) (ht : 0 < trE I J a b k)
    (h9 : z2 c 9 = if z c 10 = 0 ∨ z c 9 * trE I J a b k < -(rsE I J V a b k) * z c 10 then -(rsE I J V a b k) else z c 9)
    (h10 : z2 c 10 = if z c 10 = 0 ∨ z c 9 * trE I J a b k < -(rsE I J V a b k) * z c 10 then trE I J a b k else z c 10) (h11 : z2 c 11 = z c 11) (h12 : z2 c 12 = z c 12) :
    BH z2 c n I J V a b (stL I J V a b l k) (stG I J V a b g k) := by
  obtain ⟨h1, h2⟩ := h
  unfold BH stL stG
  rw [if_pos ht, if_neg (by omega), h11, h12]
  refine ⟨?_, h2⟩
  unfold lwU
  rcases h1 with ⟨e1, e2⟩ | ⟨e1, e2, e3, e4, e5⟩
  · rw [if_pos (Or.inl e2)] at h9 h10
    rw [if_pos (Or.inl e1)]
    exact Or.inr ⟨hk.1, hk.2, ht, h9, h10⟩
  · rw [e4, e5] at h9 h10
    by_cases q : -(rsE I J V a b l) * trE I J a b k < -(rsE I J V a b k) * trE I J a b l
    · rw [if_pos (Or.inr q)] at h9 h10
      rw [if_pos (Or.inr q)]
      exact Or.inr ⟨hk.1, hk.2, ht, h9, h10⟩
    · have q2 : ¬ (trE I J a b l = 0 ∨ -(rsE I J V a b l) * trE I J a b k < -(rsE I J V a b k) * trE I J a b l) := fun w => w.elim (fun w => by omega) q
      rw [if_neg q2] at h9 h10
      rw [if_neg (fun w => w.elim (fun w => by omega) q)]
      exact Or.inr ⟨e1, e2, e3, h9, h10⟩
theorem BH_high {z z2 : ZM} {c : Nat} {n : Int} {I J V : Int → Int} {a b l g k : Int} (h : BH z c n I J V a b l g) (hk : 0 ≤ k ∧ k < n) (ht : trE I J a b k < 0)
    (h11 : z2 c 11 = if z c 12 = 0 ∨ rsE I J V a b k * z c 12 < z c 11 * -(trE I J a b k) then rsE I J V a b k else z c 11)
    (h12 : z2 c 12 = if z c 12 = 0 ∨ rsE I J V a b k * z c 12 < z c 11 * -(trE I J a b k) then -(trE I J a b k) else z c 12) (h9 : z2 c 9 = z c 9) (h10 : z2 c 10 = z c 10) :
    BH z2 c n I J V a b (stL I J V a b l k) (stG I J V a b g k) := by
  obtain ⟨h1, h2⟩ := h
  unfold BH stL stG
  rw [if_neg (by omega), if_pos ht, h9, h10]
  refine ⟨h1, ?_⟩
  unfold hgU
  rcases h2 with ⟨e1, e2⟩ | ⟨e1, e2, e3, e4, e5⟩
  · rw [if_pos (Or.inl e2)] at h11 h12
    rw [if_pos (Or.inl e1)]
    exact Or.inr ⟨hk.1, hk.2, ht, h11, h12⟩
  · rw [e4, e5] at h11 h12
    by_cases q : rsE I J V a b k * -(trE I J a b g) < rsE I J V a b g * -(trE I J a b k)
    · rw [if_pos (Or.inr q)] at h11 h12
      rw [if_pos (Or.inr q)]
      exact Or.inr ⟨hk.1, hk.2, ht, h11, h12⟩
    · have q2 : ¬ (-(trE I J a b g) = 0 ∨ rsE I J V a b k * -(trE I J a b g) < rsE I J V a b g * -(trE I J a b k)) := fun w => w.elim (fun w => by omega) q
      rw [if_neg q2] at h11 h12
      rw [if_neg (fun w => w.elim (fun w => by omega) q)]
      exact Or.inr ⟨e1, e2, e3, h11, h12⟩
theorem BH_flat {z : ZM} {c : Nat} {n : Int} {I J V : Int → Int} {a b l g k : Int} (h : BH z c n I J V a b l g) (ht : trE I J a b k = 0) : BH z c n I J V a b (stL I J V a b l k) (stG I J V a b g k) := by
  unfold stL stG
  rw [if_neg (by omega), if_neg (by omega)]
  exact h
theorem v_raiseLow {X : PX} {d : Nat} {S : SS} {zI zL : ZM} {Q : PQ} {h : Nat} (hcv : isCurve S h) {u v : Int} (hu : -200000 ≤ u ∧ u ≤ 200000) (hv : 1 ≤ v ∧ v ≤ 128) (hb : (-200000 ≤ zL (h + 4) 9 ∧ zL (h + 4) 9 ≤ 200000) ∧ (1 ≤ zL (h + 4) 10 ∧ zL (h + 4) 10 ≤ 128) ∨ zL (h + 4) 10 = 0) (hQ : ∀ z, (∀ c, c ≠ h + 4 → z c = zL c) → z (h + 4) 9 = (if zL (h + 4) 10 = 0 ∨ zL (h + 4) 9 * v < u * zL (h + 4) 10 then u else zL (h + 4) 9) → z (h + 4) 10 = (if zL (h + 4) 10 = 0 ∨ zL (h + 4) 9 * v < u * zL (h + 4) 10 then v else zL (h + 4) 10) → z (h + 4) 11 = zL (h + 4) 11 → z (h + 4) 12 = zL (h + 4) 12 → Q none S zI z) : wpM X (d + 1) fCurve_raiseLow [pR (h + 4), pL u, pL v] S zI zL Q := by
  refine w_raiseLow hcv hu hv hb (fun hc => ?_) (fun h1 h2 => ?_)
  · refine hQ _ (fun c hc => by simp only [zput_row hc]) ?_ ?_ ?_ ?_
    · rw [if_pos hc]; unfold zput; simp (disch := omega) only [if_pos, if_neg, ↓reduceIte, true_and, and_true, true_or, or_true, and_self]
    · rw [if_pos hc]; unfold zput; simp (disch := omega) only [if_pos, if_neg, ↓reduceIte, true_and, and_true, true_or, or_true, and_self]
    · unfold zput; simp (disch := omega) only [if_pos, if_neg, ↓reduceIte, true_and, and_true, true_or, or_true, and_self]
    · unfold zput; simp (disch := omega) only [if_pos, if_neg, ↓reduceIte, true_and, and_true, true_or, or_true, and_self]
  · have hn : ¬ (zL (h + 4) 10 = 0 ∨ zL (h + 4) 9 * v < u * zL (h + 4) 10) := fun q => q.elim h1 h2
    exact hQ _ (fun c hc => rfl) (by rw [if_neg hn]) (by rw [if_neg hn]) rfl rfl
theorem v_bringDownHigh {X : PX} {d : Nat} {S : SS} {zI zL : ZM} {Q : PQ} {h : Nat} (hcv : isCurve S h) {u v : Int} (hu : -200000 ≤ u ∧ u ≤ 200000) (hv : 1 ≤ v ∧ v ≤ 128) (hb : (-200000 ≤ zL (h + 4) 11 ∧ zL (h + 4) 11 ≤ 200000) ∧ (1 ≤ zL (h + 4) 12 ∧ zL (h + 4) 12 ≤ 128) ∨ zL (h + 4) 12 = 0) (hQ : ∀ z, (∀ c, c ≠ h + 4 → z c = zL c) → z (h + 4) 11 = (if zL (h + 4) 12 = 0 ∨ u * zL (h + 4) 12 < zL (h + 4) 11 * v then u else zL (h + 4) 11) → z (h + 4) 12 = (if zL (h + 4) 12 = 0 ∨ u * zL (h + 4) 12 < zL (h + 4) 11 * v then v else zL (h + 4) 12) → z (h + 4) 9 = zL (h + 4) 9 → z (h + 4) 10 = zL (h + 4) 10 → Q none S zI z) : wpM X (d + 1) fCurve_bringDownHigh [pR (h + 4), pL u, pL v] S zI zL Q := by
  refine w_bringDownHigh hcv hu hv hb (fun hc => ?_) (fun h1 h2 => ?_)
  · refine hQ _ (fun c hc => by simp only [zput_row hc]) ?_ ?_ ?_ ?_
    · rw [if_pos hc]; unfold zput; simp (disch := omega) only [if_pos, if_neg, ↓reduceIte, true_and, and_true, true_or, or_true, and_self]
    · rw [if_pos hc]; unfold zput; simp (disch := omega) only [if_pos, if_neg, ↓reduceIte, true_and, and_true, true_or, or_true, and_self]
    · unfold zput; simp (disch := omega) only [if_pos, if_neg, ↓reduceIte, true_and, and_true, true_or, or_true, and_self]
    · unfold zput; simp (disch := omega) only [if_pos, if_neg, ↓reduceIte, true_and, and_true, true_or, or_true, and_self]
  · have hn : ¬ (zL (h + 4) 12 = 0 ∨ u * zL (h + 4) 12 < zL (h + 4) 11 * v) := fun q => q.elim h1 h2
    exact hQ _ (fun c hc => rfl) (by rw [if_neg hn]) (by rw [if_neg hn]) rfl rfl
set_option maxHeartbeats 4000000 in
theorem w_findStretch {X : PX} {d : Nat} {S : SS} {zI zL : ZM} {Q : PQ} {h : Nat} {n : Int} {I J V : Int → Int} (hcv : isCurve S h) (hT : FH zI h n I J V) (hR : FR n I J V) {a b : Int} (ha : 0 ≤ a ∧ a < n) (hb : 0 ≤ b ∧ b < n) (hQ0 : stF n I J V a b = none → ∀ z, (∀ c, c ≠ h + 4 → z c = zL c) → Q (some (pI 0)) S zI z) (hQ1 : ∀ l g, stF n I J V a b = some (l, g) → ∀ z, (∀ c, c ≠ h + 4 → z c = zL c) → BH z (h + 4) n I J V a b l g → Q (some (pI 1)) S zI z) : wpM X (d + 2) fCurve_findStretch [pR (h + 4), pI a, pI b] S zI zL Q := by
  have hcv0 := hcv
  obtain ⟨hobc, hform, hpt, hpts, ⟨hr11, hr12, hr13, hr14⟩, ⟨c0, c1, c2, c3⟩, c4, c5, c6, c7⟩ := hcv
  have hR0 := hR
  obtain ⟨hob, ⟨hr1, hr2, hr3⟩, hf1, hf2, hf3⟩ := hform
  obtain ⟨e4, hel⟩ := hT
  obtain ⟨hn0, hn40, hrg⟩ := hR
  have l0 : inL 0 := by unfold inL; omega
  obtain ⟨ga1, ga2, ga3⟩ := hel a ha.1 ha.2
  obtain ⟨gb1, gb2, gb3⟩ := hel b hb.1 hb.2
  have ra := hrg a ha.1 ha.2
  have rb := hrg b hb.1 hb.2
  have key : ∀ k : Int, k ≤ n → 0 ≤ k → ∀ (z : ZM) (l g : Int) (x7 x8 x9 x10 : Option PV), (∀ c, c ≠ h + 4 → z c = zL c) → BH z (h + 4) n I J V a b l g → stW I J V a b (n - k).toNat k l g = stF n I J V a b → Run X (d + 1) c_Curve_findStretch 44 [some (pR (h + 4)), some (pI a), some (pI b), some (pI (I b - I a)), some (pI (J b - J a)), some (pI (V a - V b)), some (pI k), x7, x8, x9, x10] [] S zI z 0 0 Q := by
    refine loop_up _ n (fun k hk ih h0 z l g x7 x8 x9 x10 hz hB hs => ?_)
    have join : k < n → ∀ (z : ZM) (l g x9 x10 : Int), (∀ c, c ≠ h + 4 → z c = zL c) → BH z (h + 4) n I J V a b l g → (if emE I J V a b l g then none else stW I J V a b (n - (k + 1)).toNat (k + 1) l g) = stF n I J V a b → Run X (d + 1) c_Curve_findStretch 143 [some (pR (h + 4)), some (pI a), some (pI b), some (pI (I b - I a)), some (pI (J b - J a)), some (pI (V a - V b)), some (pI k), some (pI (I k - I a)), some (pI (J k - J a)), some (pI x9), some (pI x10)] [] S zI z 0 0 Q := by
      intro hkn z l g x9 x10 hz hB hs
      have hBB := hB
      obtain ⟨hb1, hb2⟩ := hB
      have bl : l ≠ -1 → (-128 ≤ trE I J a b l ∧ trE I J a b l ≤ 128) ∧ -102400 ≤ rsE I J V a b l ∧ rsE I J V a b l ≤ 102400 := fun q => ⟨trE_b hR0 ha hb (by omega), rsE_b hR0 ha hb (by omega)⟩
      have bg : g ≠ -1 → (-128 ≤ trE I J a b g ∧ trE I J a b g ≤ 128) ∧ -102400 ≤ rsE I J V a b g ∧ rsE I J V a b g ≤ 102400 := fun q => ⟨trE_b hR0 ha hb (by omega), rsE_b hR0 ha hb (by omega)⟩
      have bz10 : inL (z (h + 4) 10) := by unfold inL; omega
      have bz12 : inL (z (h + 4) 12) := by unfold inL; omega
      refine r_aload_n rfl rfl ?_
      refine r_getL rfl (by assumption) ?_
      refine r_lconst rfl ?_
      refine r_l_eq rfl rfl bz10 l0 (fun h147 => ?_) (fun h147 => ?_)
      · skip
        refine r_iinc rfl rfl ?_
        refine r_goto rfl ?_
        exact ih hkn (by omega) z l g _ _ _ _ hz hBB (by rw [if_neg (fun q => by have := q.1; omega)] at hs; exact hs)
      · skip
        refine r_aload_n rfl rfl ?_
        refine r_getL rfl (by assumption) ?_
        refine r_lconst rfl ?_
        refine r_l_eq rfl rfl bz12 l0 (fun h152 => ?_) (fun h152 => ?_)
        · skip
          refine r_iinc rfl rfl ?_
          refine r_goto rfl ?_
          exact ih hkn (by omega) z l g _ _ _ _ hz hBB (by rw [if_neg (fun q => by have := q.2.1; omega)] at hs; exact hs)
        · skip
          have nl : l ≠ -1 := by omega
          have ng : g ≠ -1 := by omega
          have e9 : z (h + 4) 9 = -(rsE I J V a b l) := by omega
          have e10 : z (h + 4) 10 = trE I J a b l := by omega
          have e11 : z (h + 4) 11 = rsE I J V a b g := by omega
          have e12 : z (h + 4) 12 = -(trE I J a b g) := by omega
          have bl := bl nl
          have bg := bg ng
          have m1 := mb (a := -(rsE I J V a b l)) (b := -(trE I J a b g)) (A := 102400) (B := 128) (by omega) (by omega) (by omega) (by omega)
          have m2 := mb (a := rsE I J V a b g) (b := trE I J a b l) (A := 102400) (B := 128) (by omega) (by omega) (by omega) (by omega)
          refine r_aload_n rfl rfl ?_
          refine r_getL rfl (by assumption) ?_
          refine r_aload_n rfl rfl ?_
          refine r_getL rfl (by assumption) ?_
          refine r_lmul rfl ?_
          refine r_aload_n rfl rfl ?_
          refine r_getL rfl (by assumption) ?_
          refine r_aload_n rfl rfl ?_
          refine r_getL rfl (by assumption) ?_
          refine r_lmul rfl ?_
          rw [e9, e10, e11, e12]
          refine r_l_lt rfl rfl (by unfold inL; omega) (by unfold inL; omega) (fun h164 => ?_) (fun h164 => ?_)
          · skip
            refine r_iinc rfl rfl ?_
            refine r_goto rfl ?_
            exact ih hkn (by omega) z l g _ _ _ _ hz hBB (by rw [if_neg (fun q => by have := q.2.2; omega)] at hs; exact hs)
          · skip
            refine r_iconst rfl ?_
            refine r_zret rfl (by first | exact Or.inl rfl | exact Or.inr rfl) ?_
            rw [if_pos ⟨nl, ng, by omega⟩] at hs; exact hQ0 hs.symm _ hz
    have hBB := hB
    obtain ⟨hb1, hb2⟩ := hB
    refine r_iload rfl rfl ?_
    refine r_aload_n rfl rfl ?_
    refine r_getR rfl (by assumption) (by assumption) ?_
    refine r_getI rfl (by assumption) ?_
    refine r_icmp_ge rfl (by unfold inI; omega) (by unfold inI; omega) (fun h48 => ?_) (fun h48 => ?_)
    · skip
      refine r_iconst rfl ?_
      refine r_zret rfl (by first | exact Or.inl rfl | exact Or.inr rfl) ?_
      rw [stW_e (by omega)] at hs; exact hQ1 l g hs.symm _ hz hBB
    · skip
      have hkn : k < n := by omega
      obtain ⟨gk1, gk2, gk3⟩ := hel k h0 hkn
      have rk := hrg k h0 hkn
      have bt := trE_b hR0 ha hb ⟨h0, hkn⟩
      have br := rsE_b hR0 ha hb ⟨h0, hkn⟩
      rw [stW_s hkn] at hs
      refine r_aload_n rfl rfl ?_
      refine r_getR rfl (by assumption) (by assumption) ?_
      refine r_getR rfl (by assumption) (by assumption) ?_
      refine r_iload rfl rfl ?_
      refine r_iald rfl (by assumption) (by omega) (by omega) ?_
      rw [gk1]
      refine r_aload_n rfl rfl ?_
      refine r_getR rfl (by assumption) (by assumption) ?_
      refine r_getR rfl (by assumption) (by assumption) ?_
      refine r_iload_n rfl rfl ?_
      refine r_iald rfl (by assumption) (by omega) (by omega) ?_
      rw [ga1]
      refine r_isub rfl ?_
      refine r_istore rfl (Nat.le_of_ble_eq_true rfl) ?_
      refine r_aload_n rfl rfl ?_
      refine r_getR rfl (by assumption) (by assumption) ?_
      refine r_getR rfl (by assumption) (by assumption) ?_
      refine r_iload rfl rfl ?_
      refine r_iald rfl (by assumption) (by omega) (by omega) ?_
      rw [gk2]
      refine r_aload_n rfl rfl ?_
      refine r_getR rfl (by assumption) (by assumption) ?_
      refine r_getR rfl (by assumption) (by assumption) ?_
      refine r_iload_n rfl rfl ?_
      refine r_iald rfl (by assumption) (by omega) (by omega) ?_
      rw [ga2]
      refine r_isub rfl ?_
      refine r_istore rfl (Nat.le_of_ble_eq_true rfl) ?_
      refine r_iload_n rfl rfl ?_
      refine r_iload rfl rfl ?_
      refine r_imul rfl ?_
      refine r_iload rfl rfl ?_
      refine r_iload rfl rfl ?_
      refine r_imul rfl ?_
      refine r_isub rfl ?_
      rw [show (I b - I a) * (J k - J a) - (J b - J a) * (I k - I a) = trE I J a b k from rfl]
      refine r_istore rfl (Nat.le_of_ble_eq_true rfl) ?_
      refine r_iload rfl rfl ?_
      refine r_iload rfl rfl ?_
      refine r_iload_n rfl rfl ?_
      refine r_imul rfl ?_
      refine r_iload rfl rfl ?_
      refine r_iload rfl rfl ?_
      refine r_imul rfl ?_
      refine r_iadd rfl ?_
      refine r_imul rfl ?_
      refine r_aload_n rfl rfl ?_
      refine r_getR rfl (by assumption) (by assumption) ?_
      refine r_getR rfl (by assumption) (by assumption) ?_
      refine r_iload rfl rfl ?_
      refine r_iald rfl (by assumption) (by omega) (by omega) ?_
      rw [gk3]
      refine r_aload_n rfl rfl ?_
      refine r_getR rfl (by assumption) (by assumption) ?_
      refine r_getR rfl (by assumption) (by assumption) ?_
      refine r_iload_n rfl rfl ?_
      refine r_iald rfl (by assumption) (by omega) (by omega) ?_
      rw [ga3]
      refine r_isub rfl ?_
      refine r_iload_n rfl rfl ?_
      refine r_iload_n rfl rfl ?_
      refine r_imul rfl ?_
      refine r_iload rfl rfl ?_
      refine r_iload rfl rfl ?_
      refine r_imul rfl ?_
      refine r_iadd rfl ?_
      refine r_imul rfl ?_
      refine r_iadd rfl ?_
      rw [show (V a - V b) * ((I k - I a) * (I b - I a) + (J k - J a) * (J b - J a)) + (V k - V a) * ((I b - I a) * (I b - I a) + (J b - J a) * (J b - J a)) = rsE I J V a b k from rfl]
      refine r_istore rfl (Nat.le_of_ble_eq_true rfl) ?_
      refine r_iload rfl rfl ?_
      refine r_if_le rfl (by unfold inI; omega) (fun h112 => ?_) (fun h112 => ?_)
      · skip
        refine r_iload rfl rfl ?_
        refine r_if_ge rfl (by unfold inI; omega) (fun h122 => ?_) (fun h122 => ?_)
        · skip
          refine r_iload rfl rfl ?_
          refine r_if_lt rfl (by unfold inI; omega) (fun h132 => ?_) (fun h132 => ?_)
          · skip
            refine r_iconst rfl ?_
            refine r_zret rfl (by first | exact Or.inl rfl | exact Or.inr rfl) ?_
            rw [if_pos ⟨by omega, by omega⟩] at hs; exact hQ0 hs.symm _ hz
          · skip
            refine r_iload rfl rfl ?_
            refine r_if_ne rfl (by unfold inI; omega) (fun h134 => ?_) (fun h134 => ?_)
            · skip
              exact join hkn z _ _ _ _ hz (BH_flat (k := k) hBB (by omega)) (by rw [if_neg (fun q => by have := q.2; omega)] at hs; exact hs)
            · skip
              refine r_iload rfl rfl ?_
              refine r_iload_n rfl rfl ?_
              refine r_icmp_lt rfl (by unfold inI; omega) (by unfold inI; omega) (fun h137 => ?_) (fun h137 => ?_)
              · skip
                refine r_iconst rfl ?_
                refine r_zret rfl (by first | exact Or.inl rfl | exact Or.inr rfl) ?_
                rw [if_pos ⟨by omega, by omega⟩] at hs; exact hQ0 hs.symm _ hz
              · skip
                refine r_iload rfl rfl ?_
                refine r_iload_n rfl rfl ?_
                refine r_icmp_le rfl (by unfold inI; omega) (by unfold inI; omega) (fun h140 => ?_) (fun h140 => ?_)
                · skip
                  exact join hkn z _ _ _ _ hz (BH_flat (k := k) hBB (by omega)) (by rw [if_neg (fun q => by have := q.2; omega)] at hs; exact hs)
                · skip
                  refine r_iconst rfl ?_
                  refine r_zret rfl (by first | exact Or.inl rfl | exact Or.inr rfl) ?_
                  rw [if_pos ⟨by omega, by omega⟩] at hs; exact hQ0 hs.symm _ hz
        · skip
          refine r_aload_n rfl rfl ?_
          refine r_iload rfl rfl ?_
          refine r_i2l rfl (by unfold inI; omega) ?_
          refine r_iload rfl rfl ?_
          refine r_ineg rfl ?_
          refine r_i2l rfl (by unfold inI; omega) ?_
          refine r_cV3 rfl hobc (Nat.le_of_ble_eq_true rfl) rfl rfl (v_bringDownHigh hcv0 (by omega) (by omega) (by have q := fun nl : g ≠ -1 => trE_b hR0 (k := g) ha hb (by omega); have q2 := fun nl : g ≠ -1 => rsE_b hR0 (k := g) ha hb (by omega); omega) (fun z2 f2 q11 q12 q9 q10 => ?_))
          refine r_goto rfl ?_
          exact join hkn z2 _ _ _ _ (fun c hc => (f2 c hc).trans (hz c hc)) (BH_high hBB ⟨h0, hkn⟩ (by omega) q11 q12 q9 q10) (by rw [if_neg (fun q => by have := q.1; omega)] at hs; exact hs)
      · skip
        refine r_aload_n rfl rfl ?_
        refine r_iload rfl rfl ?_
        refine r_ineg rfl ?_
        refine r_i2l rfl (by unfold inI; omega) ?_
        refine r_iload rfl rfl ?_
        refine r_i2l rfl (by unfold inI; omega) ?_
        refine r_cV3 rfl hobc (Nat.le_of_ble_eq_true rfl) rfl rfl (v_raiseLow hcv0 (by omega) (by omega) (by have q := fun nl : l ≠ -1 => trE_b hR0 (k := l) ha hb (by omega); have q2 := fun nl : l ≠ -1 => rsE_b hR0 (k := l) ha hb (by omega); omega) (fun z2 f2 q9 q10 q11 q12 => ?_))
        refine r_goto rfl ?_
        exact join hkn z2 _ _ _ _ (fun c hc => (f2 c hc).trans (hz c hc)) (BH_low hBB ⟨h0, hkn⟩ (by omega) q9 q10 q11 q12) (by rw [if_neg (fun q => by have := q.1; omega)] at hs; exact hs)
  refine wp_in (C := c_Curve_findStretch) (ls := [some (pR (h + 4)), some (pI a), some (pI b), none, none, none, none, none, none, none, none]) rfl rfl rfl rfl rfl ?_
  refine r_aload_n rfl rfl ?_
  refine r_getR rfl (by assumption) (by assumption) ?_
  refine r_getR rfl (by assumption) (by assumption) ?_
  refine r_iload_n rfl rfl ?_
  refine r_iald rfl (by assumption) (by omega) (by omega) ?_
  rw [gb1]
  refine r_aload_n rfl rfl ?_
  refine r_getR rfl (by assumption) (by assumption) ?_
  refine r_getR rfl (by assumption) (by assumption) ?_
  refine r_iload_n rfl rfl ?_
  refine r_iald rfl (by assumption) (by omega) (by omega) ?_
  rw [ga1]
  refine r_isub rfl ?_
  refine r_istore_n rfl (Nat.le_of_ble_eq_true rfl) ?_
  refine r_aload_n rfl rfl ?_
  refine r_getR rfl (by assumption) (by assumption) ?_
  refine r_getR rfl (by assumption) (by assumption) ?_
  refine r_iload_n rfl rfl ?_
  refine r_iald rfl (by assumption) (by omega) (by omega) ?_
  rw [gb2]
  refine r_aload_n rfl rfl ?_
  refine r_getR rfl (by assumption) (by assumption) ?_
  refine r_getR rfl (by assumption) (by assumption) ?_
  refine r_iload_n rfl rfl ?_
  refine r_iald rfl (by assumption) (by omega) (by omega) ?_
  rw [ga2]
  refine r_isub rfl ?_
  refine r_istore rfl (Nat.le_of_ble_eq_true rfl) ?_
  refine r_aload_n rfl rfl ?_
  refine r_getR rfl (by assumption) (by assumption) ?_
  refine r_getR rfl (by assumption) (by assumption) ?_
  refine r_iload_n rfl rfl ?_
  refine r_iald rfl (by assumption) (by omega) (by omega) ?_
  rw [ga3]
  refine r_aload_n rfl rfl ?_
  refine r_getR rfl (by assumption) (by assumption) ?_
  refine r_getR rfl (by assumption) (by assumption) ?_
  refine r_iload_n rfl rfl ?_
  refine r_iald rfl (by assumption) (by omega) (by omega) ?_
  rw [gb3]
  refine r_isub rfl ?_
  refine r_istore rfl (Nat.le_of_ble_eq_true rfl) ?_
  refine r_aload_n rfl rfl ?_
  refine r_lconst rfl ?_
  refine r_putL rfl (by assumption) ?_
  refine r_aload_n rfl rfl ?_
  refine r_lconst rfl ?_
  refine r_putL rfl (by assumption) ?_
  refine r_iconst rfl ?_
  refine r_istore rfl (Nat.le_of_ble_eq_true rfl) ?_
  exact key 0 hn0 (Int.le_refl _) _ (-1) (-1) _ _ _ _ (fun c hc => by simp only [zput_row hc]) ⟨Or.inl ⟨rfl, by unfold zput; simp (disch := omega) only [if_pos, if_neg, ↓reduceIte, true_and, and_true, true_or, or_true, and_self]⟩, Or.inl ⟨rfl, by unfold zput; simp (disch := omega) only [if_pos, if_neg, ↓reduceIte, true_and, and_true, true_or, or_true, and_self]⟩⟩ (by rw [Int.sub_zero]; rfl)
