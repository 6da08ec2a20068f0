/-! FORMS: what their cells hold; their methods -/
theorem mb {a b A B : Int} (h1 : -A ≤ a) (h2 : a ≤ A) (h3 : -B ≤ b) (h4 : b ≤ B) : -(A * B) ≤ a * b ∧ a * b ≤ A * B := by
  have hA : a.natAbs ≤ A.toNat := by omega
  have hB : b.natAbs ≤ B.toNat := by omega
  have h := Nat.mul_le_mul hA hB
  rw [← Int.natAbs_mul] at h
  have e : ((A.toNat * B.toNat : Nat) : Int) = A * B := by rw [Int.natCast_mul, Int.toNat_of_nonneg (by omega), Int.toNat_of_nonneg (by omega)]
  omega
def srch (p : Int → Bool) : Nat → Int → Int
  | 0, _ => -1
  | m + 1, k => if p k then k else srch p m (k + 1)
theorem srch_end {p : Int → Bool} {n k : Int} (h : n ≤ k) : srch p (n - k).toNat k = -1 := by rw [show (n - k).toNat = 0 by omega]; rfl
theorem srch_hit {p : Int → Bool} {n k : Int} (h : k < n) (hp : p k = true) : srch p (n - k).toNat k = k := by
  rw [show (n - k).toNat = (n - (k + 1)).toNat + 1 by omega]; unfold srch; rw [hp]; rfl
theorem srch_miss {p : Int → Bool} {n k : Int} (h : k < n) (hp : p k = false) : srch p (n - k).toNat k = srch p (n - (k + 1)).toNat (k + 1) := by
  rw [show (n - k).toNat = (n - (k + 1)).toNat + 1 by omega]
  conv => lhs; unfold srch
  rw [hp]; rfl
theorem srch_in (p : Int → Bool) : ∀ (m : Nat) (k : Int), srch p m k = -1 ∨ (k ≤ srch p m k ∧ srch p m k < k + m ∧ p (srch p m k) = true)
  | 0, _ => Or.inl rfl
  | m + 1, k => by
    unfold srch
    by_cases h : p k = true
    · rw [if_pos h]; exact Or.inr ⟨Int.le_refl _, by omega, h⟩
    · rw [if_neg h]
      rcases srch_in p m (k + 1) with q | ⟨q1, q2, q3⟩
      · exact Or.inl q
      · exact Or.inr ⟨by omega, by omega, q3⟩
theorem srch_no (p : Int → Bool) : ∀ (m : Nat) (k : Int), srch p m k = -1 → 0 ≤ k → ∀ t, k ≤ t → t < k + m → p t = false
  | 0, _, _, _ => fun t h1 h2 => by omega
  | m + 1, k, h, h0 => fun t h1 h2 => by
    unfold srch at h
    by_cases hp : p k = true
    · rw [if_pos hp] at h; omega
    · rw [if_neg hp] at h
      by_cases e : t = k
      · rw [e]; exact Bool.eq_false_iff.mpr hp
      · exact srch_no p m (k + 1) h (by omega) t (by omega) (by omega)
/-- which TERM is at a place; -1: none -/
def fnd (n : Int) (I J : Int → Int) (a b : Int) : Int := srch (fun t => decide (I t = a ∧ J t = b)) n.toNat 0
def FH (z : ZM) (h : Nat) (n : Int) (I J V : Int → Int) : Prop := z h 4 = n ∧ ∀ t, 0 ≤ t → t < n → z (h + 1) t = I t ∧ z (h + 2) t = J t ∧ z (h + 3) t = V t
def FR (n : Int) (I J V : Int → Int) : Prop := 0 ≤ n ∧ n ≤ 40 ∧ ∀ t, 0 ≤ t → t < n → 0 ≤ I t ∧ I t ≤ 8 ∧ 0 ≤ J t ∧ J t ≤ 8 ∧ -200 ≤ V t ∧ V t ≤ 200
/-- one place before another -/
def lexlt (a b c e : Int) : Prop := a < c ∨ (a = c ∧ b < e)
def FS (n : Int) (I J : Int → Int) : Prop := ∀ s t, 0 ≤ s → s < t → t < n → lexlt (I s) (J s) (I t) (J t)
/-- a point's numbers -/
def PB (x xd y yd : Int) : Prop := (-6400 ≤ x ∧ x ≤ 6400 ∧ 1 ≤ xd ∧ xd ≤ 128) ∧ (-6400 ≤ y ∧ y ≤ 6400 ∧ 1 ≤ yd ∧ yd ≤ 128)
def PH (z : ZM) (p : Nat) (x xd y yd : Int) : Prop := (z p 0 = x ∧ z p 1 = xd) ∧ (z p 2 = y ∧ z p 3 = yd)
def wv (i j v x xd y yd : Int) : Int := i * x * yd + j * y * xd + v * (xd * yd)
theorem wv_b {i j v x xd y yd : Int} (hi : 0 ≤ i ∧ i ≤ 8) (hj : 0 ≤ j ∧ j ≤ 8) (hv : -200 ≤ v ∧ v ≤ 200) (hp : PB x xd y yd) : -17000000 ≤ wv i j v x xd y yd ∧ wv i j v x xd y yd ≤ 17000000 := by
  obtain ⟨⟨p1, p2, p3, p4⟩, p5, p6, p7, p8⟩ := hp
  have a1 := mb (A := 8) (B := 6400) (by omega) hi.2 p1 p2
  have a2 := mb (A := 51200) (B := 128) (by omega) (by omega) (show -128 ≤ yd by omega) p8 (a := i * x)
  have b1 := mb (A := 8) (B := 6400) (by omega) hj.2 p5 p6
  have b2 := mb (A := 51200) (B := 128) (by omega) (by omega) (show -128 ≤ xd by omega) p4 (a := j * y)
  have c1 := mb (A := 128) (B := 128) (show -128 ≤ xd by omega) p4 (show -128 ≤ yd by omega) p8
  have c2 := mb (A := 200) (B := 16384) hv.1 hv.2 (by omega) (by omega) (b := xd * yd)
  unfold wv
  omega
/-- the least of f over k, k+1 .. -/
def mns (f : Int → Int) : Nat → Int → Int → Int
  | 0, _, m => m
  | c + 1, k, m => mns f c (k + 1) (min m (f k))
theorem mns_s {f : Int → Int} {n k m : Int} (h : k < n) : mns f (n - k).toNat k m = mns f (n - (k + 1)).toNat (k + 1) (min m (f k)) := by
  rw [show (n - k).toNat = (n - (k + 1)).toNat + 1 by omega]; rfl
theorem mns_e {f : Int → Int} {n k m : Int} (h : n ≤ k) : mns f (n - k).toNat k m = m := by rw [show (n - k).toNat = 0 by omega]; rfl
def lst (n : Int) (f : Int → Int) : Int := if 0 < n then mns f (n - 1).toNat 1 (f 0) else 0
def cnt (p : Int → Bool) : Nat → Int → Int
  | 0, _ => 0
  | m + 1, k => (if p k then 1 else 0) + cnt p m (k + 1)
theorem cnt_s {p : Int → Bool} {n k : Int} (h : k < n) : cnt p (n - k).toNat k = (if p k then 1 else 0) + cnt p (n - (k + 1)).toNat (k + 1) := by
  rw [show (n - k).toNat = (n - (k + 1)).toNat + 1 by omega]; rfl
theorem cnt_e {p : Int → Bool} {n k : Int} (h : n ≤ k) : cnt p (n - k).toNat k = 0 := by rw [show (n - k).toNat = 0 by omega]; rfl
theorem cnt_b (p : Int → Bool) : ∀ (m : Nat) (k : Int), 0 ≤ cnt p m k ∧ cnt p m k ≤ m
  | 0, _ => ⟨Int.le_refl _, Int.le_refl _⟩
  | m + 1, k => by
    have := cnt_b p m (k + 1)
    unfold cnt
    split <;> omega
theorem mns_b {f : Int → Int} {B : Int} : ∀ (c : Nat) (k m : Int), -B ≤ m → m ≤ B → (∀ t, k ≤ t → t < k + c → -B ≤ f t ∧ f t ≤ B) → -B ≤ mns f c k m ∧ mns f c k m ≤ B
  | 0, _, _, h1, h2, _ => ⟨h1, h2⟩
  | c + 1, k, m, h1, h2, h => by
    have := h k (Int.le_refl _) (by omega)
    exact mns_b c (k + 1) (min m (f k)) (by omega) (by omega) (fun t q1 q2 => h t (by omega) (by omega))
def leastS (n : Int) (I J V : Int → Int) (x xd y yd : Int) : Int := lst n (fun t => wv (I t) (J t) (V t) x xd y yd)
def countS (n : Int) (I J V : Int → Int) (x xd y yd : Int) : Int := cnt (fun t => decide (wv (I t) (J t) (V t) x xd y yd = leastS n I J V x xd y yd)) n.toNat 0
theorem leastS_b {n : Int} {I J V : Int → Int} {x xd y yd : Int} (hR : FR n I J V) (hp : PB x xd y yd) : -17000000 ≤ leastS n I J V x xd y yd ∧ leastS n I J V x xd y yd ≤ 17000000 := by
  unfold leastS lst
  split
  · have h0 := hR.2.2 0 (by omega) (by omega)
    have b0 := wv_b ⟨h0.1, h0.2.1⟩ ⟨h0.2.2.1, h0.2.2.2.1⟩ h0.2.2.2.2 hp
    refine mns_b _ _ _ b0.1 b0.2 (fun t q1 q2 => ?_)
    have h1 := hR.2.2 t (by omega) (by omega)
    exact wv_b ⟨h1.1, h1.2.1⟩ ⟨h1.2.2.1, h1.2.2.2.1⟩ h1.2.2.2.2 hp
  · omega
theorem w_find {X : PX} {d : Nat} {S : SS} {zI zL : ZM} {Q : PQ} {h : Nat} {n : Int} {I J V : Int → Int} (hF : isForm S h) (hT : FH zI h n I J V) (hR : FR n I J V) {a b : Int} (ha : inI a) (hb : inI b) (hQ : Q (some (pI (fnd n I J a b))) S zI zL) : wpM X (d + 1) fForm_find [pR h, pI a, pI b] S zI zL Q := by
  obtain ⟨hob, ⟨hr1, hr2, hr3⟩, hf1, hf2, hf3⟩ := hF
  obtain ⟨e4, hel⟩ := hT
  obtain ⟨hn0, hn40, hrg⟩ := hR
  have key : ∀ k : Int, k ≤ n → 0 ≤ k → srch (fun t => decide (I t = a ∧ J t = b)) (n - k).toNat k = fnd n I J a b → Run X d c_Form_find 2 [some (pR h), some (pI a), some (pI b), some (pI k)] [] S zI zL 0 0 Q := by
    refine loop_up _ n (fun k hk ih h0 hs => ?_)
    refine r_iload_n rfl rfl ?_
    refine r_aload_n rfl rfl ?_
    refine r_getI rfl (by assumption) ?_
    refine r_icmp_ge rfl (by unfold inI; omega) (by unfold inI; omega) (fun h5 => ?_) (fun h5 => ?_)
    · skip
      refine r_iconst rfl ?_
      refine r_iret rfl ?_
      rw [srch_end (by omega)] at hs; rw [hs]; exact hQ
    · skip
      have ht := hel k h0 (by omega)
      have hg := hrg k h0 (by omega)
      refine r_aload_n rfl rfl ?_
      refine r_getR rfl (by assumption) (by assumption) ?_
      refine r_iload_n rfl rfl ?_
      refine r_iald rfl (by assumption) (by omega) (by omega) ?_
      refine r_iload_n rfl rfl ?_
      refine r_icmp_ne rfl (by unfold inI; omega) ha (fun h11 => ?_) (fun h11 => ?_)
      · skip
        refine r_iinc rfl rfl ?_
        refine r_goto rfl ?_
        exact ih (by omega) (by omega) (by rw [← srch_miss (by omega) (by simp only [decide_eq_false_iff_not]; omega)]; exact hs)
      · skip
        refine r_aload_n rfl rfl ?_
        refine r_getR rfl (by assumption) (by assumption) ?_
        refine r_iload_n rfl rfl ?_
        refine r_iald rfl (by assumption) (by omega) (by omega) ?_
        refine r_iload_n rfl rfl ?_
        refine r_icmp_ne rfl (by unfold inI; omega) hb (fun h17 => ?_) (fun h17 => ?_)
        · skip
          refine r_iinc rfl rfl ?_
          refine r_goto rfl ?_
          exact ih (by omega) (by omega) (by rw [← srch_miss (by omega) (by simp only [decide_eq_false_iff_not]; omega)]; exact hs)
        · skip
          refine r_iload_n rfl rfl ?_
          refine r_iret rfl ?_
          rw [srch_hit (by omega) (by simp only [decide_eq_true_eq]; omega)] at hs; rw [hs]; exact hQ
  refine wp_in (C := c_Form_find) (ls := [some (pR h), some (pI a), some (pI b), none]) rfl rfl rfl rfl rfl ?_
  refine r_iconst rfl ?_
  refine r_istore_n rfl (Nat.le_of_ble_eq_true rfl) ?_
  exact key 0 hn0 (Int.le_refl _) (by rw [Int.sub_zero]; rfl)
theorem fnd_in (n : Int) (I J : Int → Int) (a b : Int) (hn : 0 ≤ n) : fnd n I J a b = -1 ∨ (0 ≤ fnd n I J a b ∧ fnd n I J a b < n ∧ I (fnd n I J a b) = a ∧ J (fnd n I J a b) = b) := by
  rcases srch_in (fun t => decide (I t = a ∧ J t = b)) n.toNat 0 with h | ⟨h1, h2, h3⟩
  · exact Or.inl h
  · rw [decide_eq_true_eq] at h3
    exact Or.inr ⟨h1, by unfold fnd; omega, h3⟩
def oneL (n : Int) (J : Int → Int) : Int := if srch (fun t => decide (J t ≠ 0)) n.toNat 0 = -1 then 1 else 0
theorem w_oneL {X : PX} {d : Nat} {S : SS} {zI zL : ZM} {Q : PQ} {h : Nat} {n : Int} {I J V : Int → Int} (hF : isForm S h) (hT : FH zI h n I J V) (hR : FR n I J V) (hQ : Q (some (pI (oneL n J))) S zI zL) : wpM X (d + 1) fForm_isOfOneLetter [pR h] S zI zL Q := by
  obtain ⟨hob, ⟨hr1, hr2, hr3⟩, hf1, hf2, hf3⟩ := hF
  obtain ⟨e4, hel⟩ := hT
  obtain ⟨hn0, hn40, hrg⟩ := hR
  have key : ∀ k : Int, k ≤ n → 0 ≤ k → srch (fun t => decide (J t ≠ 0)) (n - k).toNat k = srch (fun t => decide (J t ≠ 0)) n.toNat 0 → Run X d c_Form_isOfOneLetter 2 [some (pR h), some (pI k)] [] S zI zL 0 0 Q := by
    refine loop_up _ n (fun k hk ih h0 hs => ?_)
    refine r_iload_n rfl rfl ?_
    refine r_aload_n rfl rfl ?_
    refine r_getI rfl (by assumption) ?_
    refine r_icmp_ge rfl (by unfold inI; omega) (by unfold inI; omega) (fun h5 => ?_) (fun h5 => ?_)
    · skip
      refine r_iconst rfl ?_
      refine r_zret rfl (by first | exact Or.inl rfl | exact Or.inr rfl) ?_
      rw [srch_end (by omega)] at hs; unfold oneL at hQ; rw [← hs, if_pos rfl] at hQ; exact hQ
    · skip
      have ht := hel k h0 (by omega)
      have hg := hrg k h0 (by omega)
      refine r_aload_n rfl rfl ?_
      refine r_getR rfl (by assumption) (by assumption) ?_
      refine r_iload_n rfl rfl ?_
      refine r_iald rfl (by assumption) (by omega) (by omega) ?_
      refine r_if_eq rfl (by unfold inI; omega) (fun h10 => ?_) (fun h10 => ?_)
      · skip
        refine r_iinc rfl rfl ?_
        refine r_goto rfl ?_
        exact ih (by omega) (by omega) (by rw [← srch_miss (by omega) (by simp only [decide_eq_false_iff_not]; omega)]; exact hs)
      · skip
        refine r_iconst rfl ?_
        refine r_zret rfl (by first | exact Or.inl rfl | exact Or.inr rfl) ?_
        rw [srch_hit (by omega) (by simp only [decide_eq_true_eq]; omega)] at hs; unfold oneL at hQ; rw [← hs, if_neg (by omega)] at hQ; exact hQ
  refine wp_in (C := c_Form_isOfOneLetter) (ls := [some (pR h), none]) rfl rfl rfl rfl rfl ?_
  refine r_iconst rfl ?_
  refine r_istore_n rfl (Nat.le_of_ble_eq_true rfl) ?_
  exact key 0 hn0 (Int.le_refl _) (by rw [Int.sub_zero])
theorem w_below {X : PX} {d : Nat} {S : SS} {zI zL : ZM} {Q : PQ} {p : Nat} {x xd y yd : Int} (hp : isPoint S p) (hP : PH zL p x xd y yd) (hQ : Q (some (pL (xd * yd))) S zI zL) : wpM X (d + 1) fPoint_below [pR p] S zI zL Q := by
  unfold isPoint at hp
  obtain ⟨⟨e0, e1⟩, e2, e3⟩ := hP
  subst e1 e3
  refine wp_in (C := c_Point_below) (ls := [some (pR p)]) rfl rfl rfl rfl rfl ?_
  refine r_aload_n rfl rfl ?_
  refine r_getL rfl (by assumption) ?_
  refine r_aload_n rfl rfl ?_
  refine r_getL rfl (by assumption) ?_
  refine r_lmul rfl ?_
  refine r_lret rfl ?_
  exact hQ
theorem w_worthOf {X : PX} {d : Nat} {S : SS} {zI zL : ZM} {Q : PQ} {h : Nat} {n : Int} {I J V : Int → Int} (hF : isForm S h) (hT : FH zI h n I J V) (hR : FR n I J V) {p : Nat} {x xd y yd : Int} (hp : isPoint S p) (hP : PH zL p x xd y yd) {t : Int} (h0 : 0 ≤ t) (h1 : t < n) (hQ : Q (some (pL (wv (I t) (J t) (V t) x xd y yd))) S zI zL) : wpM X (d + 2) fForm_worthOf [pR h, pI t, pR p] S zI zL Q := by
  obtain ⟨hob, ⟨hr1, hr2, hr3⟩, hf1, hf2, hf3⟩ := hF
  obtain ⟨e4, hel⟩ := hT
  obtain ⟨hn0, hn40, hrg⟩ := hR
  obtain ⟨g1, g2, g3⟩ := hel t h0 h1
  have hg := hrg t h0 h1
  have hpo : ob S p 4 := hp
  have hP0 := hP
  obtain ⟨⟨e0, e1⟩, e2, e3⟩ := hP
  refine wp_in (C := c_Form_worthOf) (ls := [some (pR h), some (pI t), some (pR p)]) rfl rfl rfl rfl rfl ?_
  refine r_aload_n rfl rfl ?_
  refine r_getR rfl (by assumption) (by assumption) ?_
  refine r_iload_n rfl rfl ?_
  refine r_iald rfl (by assumption) (by omega) (by omega) ?_
  refine r_i2l rfl (by unfold inI; omega) ?_
  refine r_aload_n rfl rfl ?_
  refine r_getL rfl (by assumption) ?_
  refine r_lmul rfl ?_
  refine r_aload_n rfl rfl ?_
  refine r_getL rfl (by assumption) ?_
  refine r_lmul rfl ?_
  refine r_aload_n rfl rfl ?_
  refine r_getR rfl (by assumption) (by assumption) ?_
  refine r_iload_n rfl rfl ?_
  refine r_iald rfl (by assumption) (by omega) (by omega) ?_
  refine r_i2l rfl (by unfold inI; omega) ?_
  refine r_aload_n rfl rfl ?_
  refine r_getL rfl (by assumption) ?_
  refine r_lmul rfl ?_
  refine r_aload_n rfl rfl ?_
  refine r_getL rfl (by assumption) ?_
  refine r_lmul rfl ?_
  refine r_ladd rfl ?_
  refine r_aload_n rfl rfl ?_
  refine r_getR rfl (by assumption) (by assumption) ?_
  refine r_iload_n rfl rfl ?_
  refine r_iald rfl (by assumption) (by omega) (by omega) ?_
  refine r_i2l rfl (by unfold inI; omega) ?_
  refine r_aload_n rfl rfl ?_
  refine r_cV1 rfl hpo (Nat.le_of_ble_eq_true rfl) rfl rfl (w_below hp hP0 ?_)
  refine r_lmul rfl ?_
  refine r_ladd rfl ?_
  refine r_lret rfl ?_
  rw [g1, g2, g3, e0, e1, e2, e3]; exact hQ
theorem w_leastWorth {X : PX} {d : Nat} {S : SS} {zI zL : ZM} {Q : PQ} {h : Nat} {n : Int} {I J V : Int → Int} (hF : isForm S h) (hT : FH zI h n I J V) (hR : FR n I J V) {p : Nat} {x xd y yd : Int} (hp : isPoint S p) (hP : PH zL p x xd y yd) (hB : PB x xd y yd) (hQ : Q (some (pL (leastS n I J V x xd y yd))) S zI zL) : wpM X (d + 3) fForm_leastWorth [pR h, pR p] S zI zL Q := by
  have hF0 := hF
  have hT0 := hT
  have hR0 := hR
  obtain ⟨hob, ⟨hr1, hr2, hr3⟩, hf1, hf2, hf3⟩ := hF
  obtain ⟨e4, hel⟩ := hT
  obtain ⟨hn0, hn40, hrg⟩ := hR
  have hw : ∀ t, 0 ≤ t → t < n → inL (wv (I t) (J t) (V t) x xd y yd) ∧ (-17000000 ≤ wv (I t) (J t) (V t) x xd y yd ∧ wv (I t) (J t) (V t) x xd y yd ≤ 17000000) := fun t h0 h1 => by
    have hg := hrg t h0 h1
    have := wv_b ⟨hg.1, hg.2.1⟩ ⟨hg.2.2.1, hg.2.2.2.1⟩ hg.2.2.2.2 hB
    exact ⟨by unfold inL; omega, this⟩
  have key : ∀ k : Int, k ≤ max n 1 → 1 ≤ k → ∀ m : Int, -17000000 ≤ m → m ≤ 17000000 → mns (fun t => wv (I t) (J t) (V t) x xd y yd) (n - k).toNat k m = leastS n I J V x xd y yd → Run X (d + 2) c_Form_leastWorth 12 [some (pR h), some (pR p), some (pL m), none, some (pI k)] [] S zI zL 0 0 Q := by
    refine loop_up _ (max n 1) (fun k hk ih h0 m hm1 hm2 hs => ?_)
    refine r_iload rfl rfl ?_
    refine r_aload_n rfl rfl ?_
    refine r_getI rfl (by assumption) ?_
    refine r_icmp_ge rfl (by unfold inI; omega) (by unfold inI; omega) (fun h15 => ?_) (fun h15 => ?_)
    · skip
      refine r_lload_n rfl rfl ?_
      refine r_lret rfl ?_
      rw [mns_e (by omega)] at hs; rw [hs]; exact hQ
    · skip
      have hwk := hw k (by omega) (by omega)
      refine r_lload_n rfl rfl ?_
      refine r_aload_n rfl rfl ?_
      refine r_iload rfl rfl ?_
      refine r_aload_n rfl rfl ?_
      refine r_cV3 rfl (by assumption) (Nat.le_of_ble_eq_true rfl) rfl rfl (w_worthOf hF0 hT0 hR0 hp hP (by omega) (by omega) ?_)
      refine r_cS2 rfl (by decide) (Nat.le_of_ble_eq_true rfl) rfl rfl (w_minL (by unfold inL; omega) hwk.1 ?_)
      refine r_lstore_n rfl (Nat.le_of_ble_eq_true rfl) ?_
      refine r_iinc rfl rfl ?_
      refine r_goto rfl ?_
      exact ih (by omega) (by omega) _ (by omega) (by omega) (by rw [← mns_s (by omega)]; exact hs)
  refine wp_in (C := c_Form_leastWorth) (ls := [some (pR h), some (pR p), none, none, none]) rfl rfl rfl rfl rfl ?_
  refine r_aload_n rfl rfl ?_
  refine r_getI rfl (by assumption) ?_
  refine r_if_le rfl (by unfold inI; omega) (fun h2 => ?_) (fun h2 => ?_)
  · skip
    refine r_lconst rfl ?_
    refine r_lstore_n rfl (Nat.le_of_ble_eq_true rfl) ?_
    refine r_iconst rfl ?_
    refine r_istore rfl (Nat.le_of_ble_eq_true rfl) ?_
    exact key 1 (by omega) (Int.le_refl _) 0 (by omega) (by omega) (by rw [mns_e (by omega)]; unfold leastS lst; rw [if_neg (by omega)])
  · skip
    refine r_aload_n rfl rfl ?_
    refine r_iconst rfl ?_
    refine r_aload_n rfl rfl ?_
    refine r_cV3 rfl (by assumption) (Nat.le_of_ble_eq_true rfl) rfl rfl (w_worthOf hF0 hT0 hR0 hp hP (by omega) (by omega) ?_)
    refine r_goto rfl ?_
    refine r_lstore_n rfl (Nat.le_of_ble_eq_true rfl) ?_
    refine r_iconst rfl ?_
    refine r_istore rfl (Nat.le_of_ble_eq_true rfl) ?_
    exact key 1 (by omega) (Int.le_refl _) _ (hw 0 (by omega) (by omega)).2.1 (hw 0 (by omega) (by omega)).2.2 (by unfold leastS lst; rw [if_pos (by omega)])
theorem w_countLeast {X : PX} {d : Nat} {S : SS} {zI zL : ZM} {Q : PQ} {h : Nat} {n : Int} {I J V : Int → Int} (hF : isForm S h) (hT : FH zI h n I J V) (hR : FR n I J V) {p : Nat} {x xd y yd : Int} (hp : isPoint S p) (hP : PH zL p x xd y yd) (hB : PB x xd y yd) (hQ : Q (some (pI (countS n I J V x xd y yd))) S zI zL) : wpM X (d + 4) fForm_countLeast [pR h, pR p] S zI zL Q := by
  have hF0 := hF
  have hT0 := hT
  have hR0 := hR
  obtain ⟨hob, ⟨hr1, hr2, hr3⟩, hf1, hf2, hf3⟩ := hF
  obtain ⟨e4, hel⟩ := hT
  obtain ⟨hn0, hn40, hrg⟩ := hR
  have hlb := leastS_b hR0 hB
  have key : ∀ k : Int, k ≤ n → 0 ≤ k → ∀ c : Int, 0 ≤ c → c ≤ k → c + cnt (fun t => decide (wv (I t) (J t) (V t) x xd y yd = leastS n I J V x xd y yd)) (n - k).toNat k = countS n I J V x xd y yd → Run X (d + 3) c_Form_countLeast 8 [some (pR h), some (pR p), some (pL (leastS n I J V x xd y yd)), none, some (pI c), some (pI k)] [] S zI zL 0 0 Q := by
    refine loop_up _ n (fun k hk ih h0 c hc0 hck hs => ?_)
    refine r_iload rfl rfl ?_
    refine r_aload_n rfl rfl ?_
    refine r_getI rfl (by assumption) ?_
    refine r_icmp_ge rfl (by unfold inI; omega) (by unfold inI; omega) (fun h11 => ?_) (fun h11 => ?_)
    · skip
      refine r_iload rfl rfl ?_
      refine r_iret rfl ?_
      rw [cnt_e (by omega)] at hs; rw [show c = countS n I J V x xd y yd by omega]; exact hQ
    · skip
      have hg := hrg k h0 (by omega)
      have hwk := wv_b ⟨hg.1, hg.2.1⟩ ⟨hg.2.2.1, hg.2.2.2.1⟩ hg.2.2.2.2 hB
      refine r_aload_n rfl rfl ?_
      refine r_iload rfl rfl ?_
      refine r_aload_n rfl rfl ?_
      refine r_cV3 rfl (by assumption) (Nat.le_of_ble_eq_true rfl) rfl rfl (w_worthOf hF0 hT0 hR0 hp hP (by omega) (by omega) ?_)
      refine r_lload_n rfl rfl ?_
      refine r_l_ne rfl rfl (by unfold inL; omega) (by unfold inL; omega) (fun h18 => ?_) (fun h18 => ?_)
      · skip
        refine r_iinc rfl rfl ?_
        refine r_goto rfl ?_
        exact ih (by omega) (by omega) _ (by omega) (by omega) (by rw [cnt_s (by omega), if_neg (by simp only [decide_eq_true_eq]; exact h18)] at hs; omega)
      · skip
        refine r_iinc rfl rfl ?_
        refine r_iinc rfl rfl ?_
        refine r_goto rfl ?_
        exact ih (by omega) (by omega) _ (by omega) (by omega) (by rw [cnt_s (by omega), if_pos (by simp only [decide_eq_true_eq]; exact h18)] at hs; omega)
  refine wp_in (C := c_Form_countLeast) (ls := [some (pR h), some (pR p), none, none, none, none]) rfl rfl rfl rfl rfl ?_
  refine r_aload_n rfl rfl ?_
  refine r_aload_n rfl rfl ?_
  refine r_cV2 rfl (by assumption) (Nat.le_of_ble_eq_true rfl) rfl rfl (w_leastWorth hF0 hT0 hR0 hp hP hB ?_)
  refine r_lstore_n rfl (Nat.le_of_ble_eq_true rfl) ?_
  refine r_iconst rfl ?_
  refine r_istore rfl (Nat.le_of_ble_eq_true rfl) ?_
  refine r_iconst rfl ?_
  refine r_istore rfl (Nat.le_of_ble_eq_true rfl) ?_
  exact key 0 hn0 (Int.le_refl _) 0 (Int.le_refl _) (Int.le_refl _) (by rw [Int.sub_zero, Int.zero_add]; rfl)
