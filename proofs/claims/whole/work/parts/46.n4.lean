/-! THE REFERENCE: the ring about places (a walk about it is taken as given: ringOK) -/
def crP (x y u v a b : Int) : Int := (u - x) * (b - y) - (v - y) * (a - x)
/-- a place stands to the left of the way from (x, y) to (u, v), or on it -/
def onL (x y u v a b : Int) : Prop := 0 < crP x y u v a b ∨ (crP x y u v a b = 0 ∧ 0 ≤ (u - x) * (a - x) + (v - y) * (b - y) ∧ (u - x) * (a - x) + (v - y) * (b - y) ≤ (u - x) * (u - x) + (v - y) * (v - y))
def arP (px py : Nat → Int) : Nat → Int
  | 0 => 0
  | k + 1 => arP px py k + (px k * py (k + 1) - px (k + 1) * py k)
def hullC (m : Int) (A B : Int → Int) (len : Nat) (px py : Nat → Int) : Prop :=
  1 ≤ len ∧ (∀ t, 0 ≤ t → t < m → px 0 < A t ∨ (px 0 = A t ∧ py 0 ≤ B t)) ∧ (∃ t, 0 ≤ t ∧ t < m ∧ A t = px 0 ∧ B t = py 0) ∧ (px len = px 0 ∧ py len = py 0) ∧ (∀ i, 0 < i → i < len → ¬ (px i = px 0 ∧ py i = py 0)) ∧
  ∀ i, i < len → ¬ (px (i + 1) = px i ∧ py (i + 1) = py i) ∧ (∃ t, 0 ≤ t ∧ t < m ∧ A t = px (i + 1) ∧ B t = py (i + 1)) ∧ ∀ t, 0 ≤ t → t < m → onL (px i) (py i) (px (i + 1)) (py (i + 1)) (A t) (B t)
def ringOK (m : Int) (A B : Int → Int) (r : Int) : Prop := (0 ≤ m ∧ m ≤ 1700 ∧ ∀ t, 0 ≤ t → t < m → (0 ≤ A t ∧ A t ≤ 16) ∧ (0 ≤ B t ∧ B t ≤ 16)) ∧ ((m = 0 ∧ r = 0) ∨ (0 < m ∧ (∀ t, 0 ≤ t → t < m → A t = A 0 ∧ B t = B 0) ∧ r = 0) ∨ ∃ len px py, hullC m A B len px py ∧ r = arP px py len)
theorem ringOK_congr {m : Int} {A B A' B' : Int → Int} {r : Int} (h : ringOK m A B r) (he : ∀ t, 0 ≤ t → t < m → A' t = A t ∧ B' t = B t) : ringOK m A' B' r := by
  obtain ⟨⟨g0, g1, g2⟩, h⟩ := h
  refine ⟨⟨g0, g1, fun t t0 t1 => by rw [(he t t0 t1).1, (he t t0 t1).2]; exact g2 t t0 t1⟩, ?_⟩
  rcases h with h | ⟨h0, h1, h2⟩ | ⟨len, px, py, ⟨c1, c2, ⟨t, t0, t1, c3⟩, c4, c5, c6⟩, hr⟩
  · exact Or.inl h
  · exact Or.inr (Or.inl ⟨h0, fun t t0 t1 => by rw [(he t t0 t1).1, (he t t0 t1).2, (he 0 (Int.le_refl _) h0).1, (he 0 (Int.le_refl _) h0).2]; exact h1 t t0 t1, h2⟩)
  · refine Or.inr (Or.inr ⟨len, px, py, ⟨c1, fun t t0 t1 => by rw [(he t t0 t1).1, (he t t0 t1).2]; exact c2 t t0 t1, ⟨t, t0, t1, by rw [(he t t0 t1).1, (he t t0 t1).2]; exact c3⟩, c4, c5, fun i hi => ?_⟩, hr⟩)
    obtain ⟨d1, ⟨t, t0, t1, d2⟩, d3⟩ := c6 i hi
    exact ⟨d1, ⟨t, t0, t1, by rw [(he t t0 t1).1, (he t t0 t1).2]; exact d2⟩, fun t t0 t1 => by rw [(he t t0 t1).1, (he t t0 t1).2]; exact d3 t t0 t1⟩
theorem sq_le_of {a b : Int} (ha : 0 ≤ a) (hb : 0 ≤ b) (h : a * a ≤ b * b) : a ≤ b := by
  rcases Int.lt_or_le b a with q | q
  · have h1 := Int.mul_le_mul_of_nonneg_left (Int.le_of_lt q) hb
    have h2 := Int.mul_lt_mul_of_pos_right q (show 0 < a by omega)
    omega
  · exact q
theorem sq_zero {x : Int} (h : x * x = 0) : x = 0 := by
  rcases Int.mul_eq_zero.mp h with q | q <;> exact q
/-- of the places on a way none is farther than its end -/
theorem far1 {x y u v a b : Int} (hne : ¬ (u = x ∧ v = y)) (h : onL x y u v a b) (hc : crP x y u v a b = 0) : (a - x) * (a - x) + (b - y) * (b - y) ≤ (u - x) * (u - x) + (v - y) * (v - y) ∧ ((a - x) * (a - x) + (b - y) * (b - y) = (u - x) * (u - x) + (v - y) * (v - y) → a = u ∧ b = v) := by
  rcases h with h | ⟨-, h1, h2⟩
  · omega
  unfold crP at hc
  obtain ⟨p, hp⟩ : ∃ p, p = u - x := ⟨_, rfl⟩
  obtain ⟨q, hq⟩ : ∃ q, q = v - y := ⟨_, rfl⟩
  obtain ⟨c, hcc⟩ : ∃ c, c = a - x := ⟨_, rfl⟩
  obtain ⟨e, he⟩ : ∃ e, e = b - y := ⟨_, rfl⟩
  rw [← hp, ← hq, ← hcc, ← he] at hc h1 h2 ⊢
  have hN : 0 < p * p + q * q := by
    have s1 := sq_nn p
    have s2 := sq_nn q
    rcases Int.lt_or_le 0 (p * p + q * q) with k | k
    · exact k
    · exfalso
      have z1 := sq_zero (show p * p = 0 by omega)
      have z2 := sq_zero (show q * q = 0 by omega)
      exact hne (by omega)
  have hM := sq_nn c
  have hM2 := sq_nn e
  have key : (p * p + q * q) * (c * c + e * e) = (p * c + q * e) * (p * c + q * e) + (p * e - q * c) * (p * e - q * c) := by grind
  rw [hc] at key
  obtain ⟨N, hNd⟩ : ∃ N, N = p * p + q * q := ⟨_, rfl⟩
  obtain ⟨D, hDd⟩ : ∃ D, D = p * c + q * e := ⟨_, rfl⟩
  obtain ⟨M, hMd⟩ : ∃ M, M = c * c + e * e := ⟨_, rfl⟩
  rw [← hNd, ← hDd, ← hMd] at key
  rw [← hDd] at h1 h2
  rw [← hNd] at h2 hN ⊢
  rw [← hMd]
  have dd : D * D ≤ N * N := Int.mul_le_mul h2 h2 h1 (by omega)
  refine ⟨?_, fun hMN => ?_⟩
  · exact Int.le_of_mul_le_mul_left (show N * M ≤ N * N by omega) hN
  · rw [hMN] at key
    have hDN : N ≤ D := sq_le_of (by omega) h1 (by omega)
    have hz : (c - p) * (c - p) + (e - q) * (e - q) = 0 := by
      have : (c - p) * (c - p) + (e - q) * (e - q) = M - 2 * D + N := by rw [hMd, hDd, hNd]; grind
      omega
    have s1 := sq_nn (c - p)
    have s2 := sq_nn (e - q)
    have z1 := sq_zero (show (c - p) * (c - p) = 0 by omega)
    have z2 := sq_zero (show (e - q) * (e - q) = 0 by omega)
    omega
def frR (z' z : ZM) : Prop := (∀ c, c ≠ 184 → c ≠ 194 → c ≠ 195 → z' c = z c) ∧ ∀ k, k ≠ 17 → z' 184 k = z 184 k
theorem frR_t {z z2 z3 : ZM} (h1 : frR z2 z) (h2 : frR z3 z2) : frR z3 z := ⟨fun c a b e => (h2.1 c a b e).trans (h1.1 c a b e), fun k hk => (h2.2 k hk).trans (h1.2 k hk)⟩
/-- the places in the ring -/
def RM (z : ZM) (m : Int) (A B : Int → Int) : Prop := z 184 17 = m ∧ ∀ t, 0 ≤ t → t < m → z 194 t = A t ∧ z 195 t = B t
theorem x_ringAdd {X : PX} {d : Nat} {S : SS} {zI zL : ZM} {Q : PQ} (hS : Sk S) {m : Int} {A B : Int → Int} {a b : Int} (hM : RM zI m A B) (h0 : 0 ≤ m) (h1 : m < 1700) (hQ : ∀ z, frR z zI → RM z (m + 1) (updF A m a) (updF B m b) → Q none S z zL) : wpM X (d + 1) fM_ringAdd [pR 184, pI a, pI b] S zI zL Q := by
  obtain ⟨e1, e2⟩ := hM
  refine wp_in (C := c_M_ringAdd) (ls := [some (pR 184), some (pI a), some (pI b)]) rfl rfl rfl rfl rfl ?_
  refine r_aload_n rfl rfl ?_
  refine r_getR rfl (so184 hS) (sr184_15 hS) ?_
  refine r_aload_n rfl rfl ?_
  refine r_getI rfl (so184 hS) ?_
  rw [e1]
  refine r_iload_n rfl rfl ?_
  refine r_iast rfl (sw194 hS) (by omega) (by omega) ?_
  refine r_aload_n rfl rfl ?_
  refine r_getR rfl (so184 hS) (sr184_16 hS) ?_
  refine r_aload_n rfl rfl ?_
  refine r_getI rfl (so184 hS) ?_
  rw [zput_row (show (184 : Nat) ≠ 194 by decide), e1]
  refine r_iload_n rfl rfl ?_
  refine r_iast rfl (sw195 hS) (by omega) (by omega) ?_
  refine r_aload_n rfl rfl ?_
  refine r_dupR rfl ?_
  refine r_getI rfl (so184 hS) ?_
  rw [zput_row (show (184 : Nat) ≠ 195 by decide), zput_row (show (184 : Nat) ≠ 194 by decide), e1]
  refine r_iconst rfl ?_
  refine r_iadd rfl ?_
  refine r_putI rfl (so184 hS) ?_
  refine r_ret rfl ?_
  refine hQ _ ⟨fun c c0 c1 c2 => by rw [zput_row c0, zput_row c2, zput_row c1], fun k hk => by rw [zput_off hk, zput_row (by decide), zput_row (by decide)]⟩ ⟨zput_at, fun t t0 t1 => ?_⟩
  unfold updF zput
  by_cases e : t = m
  · subst e; simp (disch := omega) only [if_pos, if_neg, ↓reduceIte, true_and, and_true, true_or, or_true, and_self]
  · simp (disch := omega) only [if_pos, if_neg, ↓reduceIte, true_and, and_true, true_or, or_true, and_self]; exact e2 t t0 (by omega)
theorem x_turnOf {X : PX} {d : Nat} {S : SS} {zI zL : ZM} {Q : PQ} (hS : Sk S) {a b c : Int} (ha : 0 ≤ a ∧ a < 1700) (hb : 0 ≤ b ∧ b < 1700) (hc : 0 ≤ c ∧ c < 1700) (hQ : Q (some (pI (crP (zI 194 a) (zI 195 a) (zI 194 b) (zI 195 b) (zI 194 c) (zI 195 c)))) S zI zL) : wpM X (d + 1) fM_turnOf [pR 184, pI a, pI b, pI c] S zI zL Q := by
  refine wp_in (C := c_M_turnOf) (ls := [some (pR 184), some (pI a), some (pI b), some (pI c)]) rfl rfl rfl rfl rfl ?_
  refine r_aload_n rfl rfl ?_
  refine r_getR rfl (so184 hS) (sr184_15 hS) ?_
  refine r_iload_n rfl rfl ?_
  refine r_iald rfl (sw194 hS) (by omega) (by omega) ?_
  refine r_aload_n rfl rfl ?_
  refine r_getR rfl (so184 hS) (sr184_15 hS) ?_
  refine r_iload_n rfl rfl ?_
  refine r_iald rfl (sw194 hS) (by omega) (by omega) ?_
  refine r_isub rfl ?_
  refine r_aload_n rfl rfl ?_
  refine r_getR rfl (so184 hS) (sr184_16 hS) ?_
  refine r_iload_n rfl rfl ?_
  refine r_iald rfl (sw195 hS) (by omega) (by omega) ?_
  refine r_aload_n rfl rfl ?_
  refine r_getR rfl (so184 hS) (sr184_16 hS) ?_
  refine r_iload_n rfl rfl ?_
  refine r_iald rfl (sw195 hS) (by omega) (by omega) ?_
  refine r_isub rfl ?_
  refine r_imul rfl ?_
  refine r_aload_n rfl rfl ?_
  refine r_getR rfl (so184 hS) (sr184_16 hS) ?_
  refine r_iload_n rfl rfl ?_
  refine r_iald rfl (sw195 hS) (by omega) (by omega) ?_
  refine r_aload_n rfl rfl ?_
  refine r_getR rfl (so184 hS) (sr184_16 hS) ?_
  refine r_iload_n rfl rfl ?_
  refine r_iald rfl (sw195 hS) (by omega) (by omega) ?_
  refine r_isub rfl ?_
  refine r_aload_n rfl rfl ?_
  refine r_getR rfl (so184 hS) (sr184_15 hS) ?_
  refine r_iload_n rfl rfl ?_
  refine r_iald rfl (sw194 hS) (by omega) (by omega) ?_
  refine r_aload_n rfl rfl ?_
  refine r_getR rfl (so184 hS) (sr184_15 hS) ?_
  refine r_iload_n rfl rfl ?_
  refine r_iald rfl (sw194 hS) (by omega) (by omega) ?_
  refine r_isub rfl ?_
  refine r_imul rfl ?_
  refine r_isub rfl ?_
  refine r_iret rfl ?_
  exact hQ
theorem d2_b {x y a b : Int} (h1 : 0 ≤ x ∧ x ≤ 16) (h2 : 0 ≤ y ∧ y ≤ 16) (h3 : 0 ≤ a ∧ a ≤ 16) (h4 : 0 ≤ b ∧ b ≤ 16) : 0 ≤ (a - x) * (a - x) + (b - y) * (b - y) ∧ (a - x) * (a - x) + (b - y) * (b - y) ≤ 512 := by
  have m1 := mb (a := a - x) (b := a - x) (A := 16) (B := 16) (by omega) (by omega) (by omega) (by omega)
  have m2 := mb (a := b - y) (b := b - y) (A := 16) (B := 16) (by omega) (by omega) (by omega) (by omega)
  have s1 := sq_nn (a - x)
  have s2 := sq_nn (b - y)
  omega
theorem crP_b {x y u v a b : Int} (h1 : 0 ≤ x ∧ x ≤ 16) (h2 : 0 ≤ y ∧ y ≤ 16) (h3 : 0 ≤ u ∧ u ≤ 16) (h4 : 0 ≤ v ∧ v ≤ 16) (h5 : 0 ≤ a ∧ a ≤ 16) (h6 : 0 ≤ b ∧ b ≤ 16) : -512 ≤ crP x y u v a b ∧ crP x y u v a b ≤ 512 := by
  have m1 := mb (a := u - x) (b := b - y) (A := 16) (B := 16) (by omega) (by omega) (by omega) (by omega)
  have m2 := mb (a := v - y) (b := a - x) (A := 16) (B := 16) (by omega) (by omega) (by omega) (by omega)
  unfold crP; omega
theorem x_isFarther {X : PX} {d : Nat} {S : SS} {zI zL : ZM} {Q : PQ} (hS : Sk S) {t a b : Int} (ht : 0 ≤ t ∧ t < 1700) (ha : 0 ≤ a ∧ a < 1700) (hb : 0 ≤ b ∧ b < 1700) (r1 : 0 ≤ (zI 194 a - zI 194 t) * (zI 194 a - zI 194 t) + (zI 195 a - zI 195 t) * (zI 195 a - zI 195 t) ∧ (zI 194 a - zI 194 t) * (zI 194 a - zI 194 t) + (zI 195 a - zI 195 t) * (zI 195 a - zI 195 t) ≤ 512) (r2 : 0 ≤ (zI 194 b - zI 194 t) * (zI 194 b - zI 194 t) + (zI 195 b - zI 195 t) * (zI 195 b - zI 195 t) ∧ (zI 194 b - zI 194 t) * (zI 194 b - zI 194 t) + (zI 195 b - zI 195 t) * (zI 195 b - zI 195 t) ≤ 512) (h1 : (zI 194 b - zI 194 t) * (zI 194 b - zI 194 t) + (zI 195 b - zI 195 t) * (zI 195 b - zI 195 t) < (zI 194 a - zI 194 t) * (zI 194 a - zI 194 t) + (zI 195 a - zI 195 t) * (zI 195 a - zI 195 t) → Q (some (pI 1)) S zI zL) (h0 : (zI 194 a - zI 194 t) * (zI 194 a - zI 194 t) + (zI 195 a - zI 195 t) * (zI 195 a - zI 195 t) ≤ (zI 194 b - zI 194 t) * (zI 194 b - zI 194 t) + (zI 195 b - zI 195 t) * (zI 195 b - zI 195 t) → Q (some (pI 0)) S zI zL) : wpM X (d + 1) fM_isFarther [pR 184, pI t, pI a, pI b] S zI zL Q := by
  refine wp_in (C := c_M_isFarther) (ls := [some (pR 184), some (pI t), some (pI a), some (pI b), none, none, none, none]) rfl rfl rfl rfl rfl ?_
  refine r_aload_n rfl rfl ?_
  refine r_getR rfl (so184 hS) (sr184_15 hS) ?_
  refine r_iload_n rfl rfl ?_
  refine r_iald rfl (sw194 hS) (by omega) (by omega) ?_
  refine r_aload_n rfl rfl ?_
  refine r_getR rfl (so184 hS) (sr184_15 hS) ?_
  refine r_iload_n rfl rfl ?_
  refine r_iald rfl (sw194 hS) (by omega) (by omega) ?_
  refine r_isub rfl ?_
  refine r_istore rfl (Nat.le_of_ble_eq_true rfl) ?_
  refine r_aload_n rfl rfl ?_
  refine r_getR rfl (so184 hS) (sr184_16 hS) ?_
  refine r_iload_n rfl rfl ?_
  refine r_iald rfl (sw195 hS) (by omega) (by omega) ?_
  refine r_aload_n rfl rfl ?_
  refine r_getR rfl (so184 hS) (sr184_16 hS) ?_
  refine r_iload_n rfl rfl ?_
  refine r_iald rfl (sw195 hS) (by omega) (by omega) ?_
  refine r_isub rfl ?_
  refine r_istore rfl (Nat.le_of_ble_eq_true rfl) ?_
  refine r_aload_n rfl rfl ?_
  refine r_getR rfl (so184 hS) (sr184_15 hS) ?_
  refine r_iload_n rfl rfl ?_
  refine r_iald rfl (sw194 hS) (by omega) (by omega) ?_
  refine r_aload_n rfl rfl ?_
  refine r_getR rfl (so184 hS) (sr184_15 hS) ?_
  refine r_iload_n rfl rfl ?_
  refine r_iald rfl (sw194 hS) (by omega) (by omega) ?_
  refine r_isub rfl ?_
  refine r_istore rfl (Nat.le_of_ble_eq_true rfl) ?_
  refine r_aload_n rfl rfl ?_
  refine r_getR rfl (so184 hS) (sr184_16 hS) ?_
  refine r_iload_n rfl rfl ?_
  refine r_iald rfl (sw195 hS) (by omega) (by omega) ?_
  refine r_aload_n rfl rfl ?_
  refine r_getR rfl (so184 hS) (sr184_16 hS) ?_
  refine r_iload_n rfl rfl ?_
  refine r_iald rfl (sw195 hS) (by omega) (by omega) ?_
  refine r_isub rfl ?_
  refine r_istore rfl (Nat.le_of_ble_eq_true rfl) ?_
  refine r_iload rfl rfl ?_
  refine r_iload rfl rfl ?_
  refine r_imul rfl ?_
  refine r_iload rfl rfl ?_
  refine r_iload rfl rfl ?_
  refine r_imul rfl ?_
  refine r_iadd rfl ?_
  refine r_iload rfl rfl ?_
  refine r_iload rfl rfl ?_
  refine r_imul rfl ?_
  refine r_iload rfl rfl ?_
  refine r_iload rfl rfl ?_
  refine r_imul rfl ?_
  refine r_iadd rfl ?_
  refine r_icmp_le rfl (by unfold inI; omega) (by unfold inI; omega) (fun h54 => ?_) (fun h54 => ?_)
  · skip
    refine r_iconst rfl ?_
    refine r_zret rfl (by first | exact Or.inl rfl | exact Or.inr rfl | assumption) ?_
    exact h0 h54
  · skip
    refine r_iconst rfl ?_
    refine r_goto rfl ?_
    refine r_zret rfl (by first | exact Or.inl rfl | exact Or.inr rfl | assumption) ?_
    exact h1 h54
/-- what the inner loop finds -/
def bstI (z : ZM) (m x y u v k nx : Int) : Prop := (nx = -1 ∨ (0 ≤ nx ∧ nx < m ∧ ¬ (z 194 nx = x ∧ z 195 nx = y))) ∧ ((0 ≤ nx ∧ z 194 nx = u ∧ z 195 nx = v) ∨ ∀ s, 0 ≤ s → s < k → ¬ (z 194 s = u ∧ z 195 s = v))
theorem bst_new {z : ZM} {m x y u v k nx : Int} (hk : 0 ≤ k ∧ k < m) (hb : bstI z m x y u v k nx) (hx : ¬ (z 194 k = x ∧ z 195 k = y)) (h : ¬ (0 ≤ nx ∧ z 194 nx = u ∧ z 195 nx = v)) : bstI z m x y u v (k + 1) k := by
  refine ⟨Or.inr ⟨hk.1, hk.2, hx⟩, ?_⟩
  by_cases e : z 194 k = u ∧ z 195 k = v
  · exact Or.inl ⟨hk.1, e⟩
  · refine Or.inr (fun s s0 s1 => ?_)
    by_cases e2 : s = k
    · rw [e2]; exact e
    · rcases hb.2 with q | q
      · exact absurd q h
      · exact q s s0 (by omega)
theorem bst_keep {z : ZM} {m x y u v k nx : Int} (hb : bstI z m x y u v k nx) (h : ¬ (z 194 k = u ∧ z 195 k = v) ∨ (0 ≤ nx ∧ z 194 nx = u ∧ z 195 nx = v)) : bstI z m x y u v (k + 1) nx := by
  refine ⟨hb.1, ?_⟩
  rcases h with h | h
  · rcases hb.2 with q | q
    · exact Or.inl q
    · refine Or.inr (fun s s0 s1 => ?_)
      by_cases e2 : s = k
      · rw [e2]; exact h
      · exact q s s0 (by omega)
  · exact Or.inl h
set_option maxHeartbeats 4000000 in
theorem v_ringIn {X : PX} {d : Nat} {S : SS} {zI zL : ZM} {Q : PQ} (hS : Sk S) {m : Int} (hm : zI 184 17 = m) (hm0 : 0 ≤ m) (hm1 : m ≤ 1700) (hrg : ∀ t, 0 ≤ t → t < m → (0 ≤ zI 194 t ∧ zI 194 t ≤ 16) ∧ (0 ≤ zI 195 t ∧ zI 195 t ≤ 16)) {x y u v a f ar : Int} (ha : 0 ≤ a ∧ a < m) (hax : zI 194 a = x) (hay : zI 195 a = y) (hne : ¬ (u = x ∧ v = y)) (hon : ∀ t, 0 ≤ t → t < m → onL x y u v (zI 194 t) (zI 195 t)) (hQ : ∀ (nx : Int) (y7 : Option PV), bstI zI m x y u v m nx → Run X (d + 1) c_M_ringArea 103 [some (pR 184), some (pI f), some (pI ar), some (pI a), some (pI 1), some (pI nx), some (pI m), y7] [] S zI zL 0 0 Q) :
    ∀ k : Int, k ≤ m → 0 ≤ k → ∀ (nx : Int) (y7 : Option PV), bstI zI m x y u v k nx → Run X (d + 1) c_M_ringArea 56 [some (pR 184), some (pI f), some (pI ar), some (pI a), some (pI 1), some (pI nx), some (pI k), y7] [] S zI zL 0 0 Q := by
  refine loop_up _ m (fun k hk ih h0 nx y7 hb => ?_)
  have rga := hrg a ha.1 ha.2
  have nxb : -1 ≤ nx ∧ nx < m := by rcases hb.1 with q | ⟨q1, q2, -⟩ <;> omega
  refine r_iload rfl rfl ?_
  refine r_aload_n rfl rfl ?_
  refine r_getI rfl (so184 hS) ?_
  rw [hm]
  refine r_icmp_ge rfl (by unfold inI; omega) (by unfold inI; omega) (fun h59 => ?_) (fun h59 => ?_)
  · skip
    rw [show k = m by omega] at hb ⊢; exact hQ nx y7 hb
  · skip
    have hkm : k < m := by omega
    have rgk := hrg k h0 hkm
    have onk := hon k h0 hkm
    refine r_aload_n rfl rfl ?_
    refine r_getR rfl (so184 hS) (sr184_15 hS) ?_
    refine r_iload rfl rfl ?_
    refine r_iald rfl (sw194 hS) (by omega) (by omega) ?_
    refine r_aload_n rfl rfl ?_
    refine r_getR rfl (so184 hS) (sr184_15 hS) ?_
    refine r_iload_n rfl rfl ?_
    refine r_iald rfl (sw194 hS) (by omega) (by omega) ?_
    refine r_icmp_ne rfl (by unfold inI; omega) (by unfold inI; omega) (fun h68 => ?_) (fun h68 => ?_)
    · skip
      have hx : ¬ (zI 194 k = x ∧ zI 195 k = y) := fun q => by omega
      refine r_iload rfl rfl ?_
      refine r_if_ge rfl (by unfold inI; omega) (fun h80 => ?_) (fun h80 => ?_)
      · skip
        have rgn := hrg nx (by omega) nxb.2
        have onn := hon nx (by omega) nxb.2
        have hcb := crP_b rga.1 rga.2 rgn.1 rgn.2 rgk.1 rgk.2
        have hd1 := d2_b rga.1 rga.2 rgk.1 rgk.2
        have hd2 := d2_b rga.1 rga.2 rgn.1 rgn.2
        rw [hax, hay] at hcb
        refine r_aload_n rfl rfl ?_
        refine r_iload_n rfl rfl ?_
        refine r_iload rfl rfl ?_
        refine r_iload rfl rfl ?_
        refine r_cV4 rfl (so184 hS) (Nat.le_of_ble_eq_true rfl) rfl rfl (x_turnOf hS (by omega) (by omega) (by omega) ?_)
        rw [hax, hay]
        refine r_istore rfl (Nat.le_of_ble_eq_true rfl) ?_
        refine r_iload rfl rfl ?_
        refine r_if_lt rfl (by unfold inI; omega) (fun h90 => ?_) (fun h90 => ?_)
        · skip
          refine r_iload rfl rfl ?_
          refine r_istore rfl (Nat.le_of_ble_eq_true rfl) ?_
          refine r_iinc rfl rfl ?_
          refine r_goto rfl ?_
          exact ih hkm (by omega) _ _ (bst_new ⟨h0, hkm⟩ hb hx (fun q => by
            rw [q.2.1, q.2.2] at h90
            rcases onk with k1 | ⟨k1, -⟩ <;> omega))
        · skip
          refine r_iload rfl rfl ?_
          refine r_if_ne rfl (by unfold inI; omega) (fun h92 => ?_) (fun h92 => ?_)
          · skip
            refine r_iinc rfl rfl ?_
            refine r_goto rfl ?_
            exact ih hkm (by omega) _ _ (bst_keep hb (by
              by_cases q : 0 ≤ nx ∧ zI 194 nx = u ∧ zI 195 nx = v
              · exact Or.inr q
              · exact Or.inl (fun q2 => by
                rcases onn with k1 | ⟨k1, -⟩
                · have : crP x y (zI 194 nx) (zI 195 nx) (zI 194 k) (zI 195 k) = -(crP x y u v (zI 194 nx) (zI 195 nx)) := by rw [q2.1, q2.2]; unfold crP; grind
                  omega
                · have : crP x y (zI 194 nx) (zI 195 nx) (zI 194 k) (zI 195 k) = -(crP x y u v (zI 194 nx) (zI 195 nx)) := by rw [q2.1, q2.2]; unfold crP; grind
                  omega)))
          · skip
            refine r_aload_n rfl rfl ?_
            refine r_iload_n rfl rfl ?_
            refine r_iload rfl rfl ?_
            refine r_iload rfl rfl ?_
            refine r_cV4 rfl (so184 hS) (Nat.le_of_ble_eq_true rfl) rfl rfl (x_isFarther hS (by omega) (by omega) (by omega) hd1 hd2 (fun far => ?_) (fun far => ?_))
            · skip
              refine r_if_eq1 rfl ?_
              refine r_iload rfl rfl ?_
              refine r_istore rfl (Nat.le_of_ble_eq_true rfl) ?_
              refine r_iinc rfl rfl ?_
              refine r_goto rfl ?_
              exact ih hkm (by omega) _ _ (bst_new ⟨h0, hkm⟩ hb hx (fun q => by
                rw [q.2.1, q.2.2] at h92
                have := (far1 hne onk h92).1
                rw [hax, hay, q.2.1, q.2.2] at far
                omega))
            · skip
              refine r_if_eq0 rfl ?_
              refine r_iinc rfl rfl ?_
              refine r_goto rfl ?_
              exact ih hkm (by omega) _ _ (bst_keep hb (by
                by_cases q : 0 ≤ nx ∧ zI 194 nx = u ∧ zI 195 nx = v
                · exact Or.inr q
                · exact Or.inl (fun q2 => by
                  have hcz : crP x y u v (zI 194 nx) (zI 195 nx) = 0 := by
                    have : crP x y (zI 194 nx) (zI 195 nx) (zI 194 k) (zI 195 k) = -(crP x y u v (zI 194 nx) (zI 195 nx)) := by rw [q2.1, q2.2]; unfold crP; grind
                    omega
                  have := far1 hne onn hcz
                  rw [hax, hay, q2.1, q2.2] at far
                  exact q ⟨by omega, this.2 (by omega)⟩)))
      · skip
        refine r_iconst rfl ?_
        refine r_goto rfl ?_
        refine r_istore rfl (Nat.le_of_ble_eq_true rfl) ?_
        refine r_iload rfl rfl ?_
        refine r_if_lt rfl (by unfold inI; omega) (fun h90 => ?_) (fun h90 => ?_)
        · skip
          refine r_iload rfl rfl ?_
          refine r_istore rfl (Nat.le_of_ble_eq_true rfl) ?_
          refine r_iinc rfl rfl ?_
          refine r_goto rfl ?_
          exact ih hkm (by omega) _ _ (bst_new ⟨h0, hkm⟩ hb hx (fun q => by omega))
        · skip
          exact absurd h90 (by decide)
    · skip
      refine r_aload_n rfl rfl ?_
      refine r_getR rfl (so184 hS) (sr184_16 hS) ?_
      refine r_iload rfl rfl ?_
      refine r_iald rfl (sw195 hS) (by omega) (by omega) ?_
      refine r_aload_n rfl rfl ?_
      refine r_getR rfl (so184 hS) (sr184_16 hS) ?_
      refine r_iload_n rfl rfl ?_
      refine r_iald rfl (sw195 hS) (by omega) (by omega) ?_
      refine r_icmp_ne rfl (by unfold inI; omega) (by unfold inI; omega) (fun h77 => ?_) (fun h77 => ?_)
      · skip
        have hx : ¬ (zI 194 k = x ∧ zI 195 k = y) := fun q => by omega
        refine r_iload rfl rfl ?_
        refine r_if_ge rfl (by unfold inI; omega) (fun h80 => ?_) (fun h80 => ?_)
        · skip
          have rgn := hrg nx (by omega) nxb.2
          have onn := hon nx (by omega) nxb.2
          have hcb := crP_b rga.1 rga.2 rgn.1 rgn.2 rgk.1 rgk.2
          have hd1 := d2_b rga.1 rga.2 rgk.1 rgk.2
          have hd2 := d2_b rga.1 rga.2 rgn.1 rgn.2
          rw [hax, hay] at hcb
          refine r_aload_n rfl rfl ?_
          refine r_iload_n rfl rfl ?_
          refine r_iload rfl rfl ?_
          refine r_iload rfl rfl ?_
          refine r_cV4 rfl (so184 hS) (Nat.le_of_ble_eq_true rfl) rfl rfl (x_turnOf hS (by omega) (by omega) (by omega) ?_)
          rw [hax, hay]
          refine r_istore rfl (Nat.le_of_ble_eq_true rfl) ?_
          refine r_iload rfl rfl ?_
          refine r_if_lt rfl (by unfold inI; omega) (fun h90 => ?_) (fun h90 => ?_)
          · skip
            refine r_iload rfl rfl ?_
            refine r_istore rfl (Nat.le_of_ble_eq_true rfl) ?_
            refine r_iinc rfl rfl ?_
            refine r_goto rfl ?_
            exact ih hkm (by omega) _ _ (bst_new ⟨h0, hkm⟩ hb hx (fun q => by
              rw [q.2.1, q.2.2] at h90
              rcases onk with k1 | ⟨k1, -⟩ <;> omega))
          · skip
            refine r_iload rfl rfl ?_
            refine r_if_ne rfl (by unfold inI; omega) (fun h92 => ?_) (fun h92 => ?_)
            · skip
              refine r_iinc rfl rfl ?_
              refine r_goto rfl ?_
              exact ih hkm (by omega) _ _ (bst_keep hb (by
                by_cases q : 0 ≤ nx ∧ zI 194 nx = u ∧ zI 195 nx = v
                · exact Or.inr q
                · exact Or.inl (fun q2 => by
                  rcases onn with k1 | ⟨k1, -⟩
                  · have : crP x y (zI 194 nx) (zI 195 nx) (zI 194 k) (zI 195 k) = -(crP x y u v (zI 194 nx) (zI 195 nx)) := by rw [q2.1, q2.2]; unfold crP; grind
                    omega
                  · have : crP x y (zI 194 nx) (zI 195 nx) (zI 194 k) (zI 195 k) = -(crP x y u v (zI 194 nx) (zI 195 nx)) := by rw [q2.1, q2.2]; unfold crP; grind
                    omega)))
            · skip
              refine r_aload_n rfl rfl ?_
              refine r_iload_n rfl rfl ?_
              refine r_iload rfl rfl ?_
              refine r_iload rfl rfl ?_
              refine r_cV4 rfl (so184 hS) (Nat.le_of_ble_eq_true rfl) rfl rfl (x_isFarther hS (by omega) (by omega) (by omega) hd1 hd2 (fun far => ?_) (fun far => ?_))
              · skip
                refine r_if_eq1 rfl ?_
                refine r_iload rfl rfl ?_
                refine r_istore rfl (Nat.le_of_ble_eq_true rfl) ?_
                refine r_iinc rfl rfl ?_
                refine r_goto rfl ?_
                exact ih hkm (by omega) _ _ (bst_new ⟨h0, hkm⟩ hb hx (fun q => by
                  rw [q.2.1, q.2.2] at h92
                  have := (far1 hne onk h92).1
                  rw [hax, hay, q.2.1, q.2.2] at far
                  omega))
              · skip
                refine r_if_eq0 rfl ?_
                refine r_iinc rfl rfl ?_
                refine r_goto rfl ?_
                exact ih hkm (by omega) _ _ (bst_keep hb (by
                  by_cases q : 0 ≤ nx ∧ zI 194 nx = u ∧ zI 195 nx = v
                  · exact Or.inr q
                  · exact Or.inl (fun q2 => by
                    have hcz : crP x y u v (zI 194 nx) (zI 195 nx) = 0 := by
                      have : crP x y (zI 194 nx) (zI 195 nx) (zI 194 k) (zI 195 k) = -(crP x y u v (zI 194 nx) (zI 195 nx)) := by rw [q2.1, q2.2]; unfold crP; grind
                      omega
                    have := far1 hne onn hcz
                    rw [hax, hay, q2.1, q2.2] at far
                    exact q ⟨by omega, this.2 (by omega)⟩)))
        · skip
          refine r_iconst rfl ?_
          refine r_goto rfl ?_
          refine r_istore rfl (Nat.le_of_ble_eq_true rfl) ?_
          refine r_iload rfl rfl ?_
          refine r_if_lt rfl (by unfold inI; omega) (fun h90 => ?_) (fun h90 => ?_)
          · skip
            refine r_iload rfl rfl ?_
            refine r_istore rfl (Nat.le_of_ble_eq_true rfl) ?_
            refine r_iinc rfl rfl ?_
            refine r_goto rfl ?_
            exact ih hkm (by omega) _ _ (bst_new ⟨h0, hkm⟩ hb hx (fun q => by omega))
          · skip
            exact absurd h90 (by decide)
      · skip
        refine r_goto rfl ?_
        refine r_iinc rfl rfl ?_
        refine r_goto rfl ?_
        exact ih hkm (by omega) _ _ (bst_keep hb (Or.inl (fun q => hne (by omega))))
set_option maxHeartbeats 4000000 in
theorem x_ringArea {X : PX} {d : Nat} {S : SS} {zI zL : ZM} {Q : PQ} (hS : Sk S) {m r : Int} (hm : zI 184 17 = m) (hOK : ringOK m (zI 194) (zI 195) r) (hQ : Q (some (pI r)) S zI zL) : wpM X (d + 2) fM_ringArea [pR 184] S zI zL Q := by
  obtain ⟨⟨hm0, hm1, hrg⟩, hcs⟩ := hOK
  have outer : 0 < m → ∀ f : Int, 0 ≤ f → f < m → (∀ t, 0 ≤ t → t < m → zI 194 f < zI 194 t ∨ (zI 194 f = zI 194 t ∧ zI 195 f ≤ zI 195 t)) → Run X (d + 1) c_M_ringArea 50 [some (pR 184), some (pI f), some (pI 0), some (pI f), some (pI 1), none, none, none] [] S zI zL 0 0 Q := by
    intro hmp f f0 f1 hleast
    rcases hcs with ⟨q, -⟩ | ⟨-, hsame, hr⟩ | ⟨len, px, py, ⟨c1, c2, ⟨w0, w1, w2, w3⟩, c4, c5, c6⟩, hr⟩
    · omega
    · subst hr
      have hall : ∀ t, 0 ≤ t → t < m → zI 194 t = zI 194 f ∧ zI 195 t = zI 195 f := fun t t0 t1 => by
        have a1 := hsame t t0 t1
        have a2 := hsame f f0 f1
        omega
      have lp : ∀ k : Int, k ≤ m → 0 ≤ k → Run X (d + 1) c_M_ringArea 56 [some (pR 184), some (pI f), some (pI 0), some (pI f), some (pI 1), some (pI (-1)), some (pI k), none] [] S zI zL 0 0 Q := by
        refine loop_up _ m (fun k hk ih h0 => ?_)
        have rga := hrg f f0 f1
        refine r_iload rfl rfl ?_
        refine r_aload_n rfl rfl ?_
        refine r_getI rfl (so184 hS) ?_
        rw [hm]
        refine r_icmp_ge rfl (by unfold inI; omega) (by unfold inI; omega) (fun h59 => ?_) (fun h59 => ?_)
        · skip
          refine r_iload rfl rfl ?_
          refine r_if_ge rfl (by unfold inI; omega) (fun h104 => ?_) (fun h104 => ?_)
          · skip
            exact absurd h104 (by decide)
          · skip
            refine r_iconst rfl ?_
            refine r_iret rfl ?_
            exact hQ
        · skip
          have hkm : k < m := by omega
          have rgk := hrg k h0 hkm
          have hak := hall k h0 hkm
          refine r_aload_n rfl rfl ?_
          refine r_getR rfl (so184 hS) (sr184_15 hS) ?_
          refine r_iload rfl rfl ?_
          refine r_iald rfl (sw194 hS) (by omega) (by omega) ?_
          refine r_aload_n rfl rfl ?_
          refine r_getR rfl (so184 hS) (sr184_15 hS) ?_
          refine r_iload_n rfl rfl ?_
          refine r_iald rfl (sw194 hS) (by omega) (by omega) ?_
          refine r_icmp_ne rfl (by unfold inI; omega) (by unfold inI; omega) (fun h68 => ?_) (fun h68 => ?_)
          · skip
            exact absurd hak.1 h68
          · skip
            refine r_aload_n rfl rfl ?_
            refine r_getR rfl (so184 hS) (sr184_16 hS) ?_
            refine r_iload rfl rfl ?_
            refine r_iald rfl (sw195 hS) (by omega) (by omega) ?_
            refine r_aload_n rfl rfl ?_
            refine r_getR rfl (so184 hS) (sr184_16 hS) ?_
            refine r_iload_n rfl rfl ?_
            refine r_iald rfl (sw195 hS) (by omega) (by omega) ?_
            refine r_icmp_ne rfl (by unfold inI; omega) (by unfold inI; omega) (fun h77 => ?_) (fun h77 => ?_)
            · skip
              exact absurd hak.2 h77
            · skip
              refine r_goto rfl ?_
              refine r_iinc rfl rfl ?_
              refine r_goto rfl ?_
              exact ih hkm (by omega)
      refine r_iload rfl rfl ?_
      refine r_if_eq rfl (by unfold inI; omega) (fun h51 => ?_) (fun h51 => ?_)
      · skip
        exact absurd h51 (by decide)
      · skip
        refine r_iconst rfl ?_
        refine r_istore rfl (Nat.le_of_ble_eq_true rfl) ?_
        refine r_iconst rfl ?_
        refine r_istore rfl (Nat.le_of_ble_eq_true rfl) ?_
        exact lp 0 hm0 (Int.le_refl _)
    · have hf : zI 194 f = px 0 ∧ zI 195 f = py 0 := by
        have a1 := hleast w0 w1 w2
        have a2 := c2 f f0 f1
        omega
      have lp : ∀ (g i : Nat), i + g = len → ∀ (a : Int) (mr : Int) (y5 y6 y7 : Option PV), 0 ≤ a → a < m → zI 194 a = px i → zI 195 a = py i → mr = (if i < len then 1 else 0) → Run X (d + 1) c_M_ringArea 50 [some (pR 184), some (pI f), some (pI (arP px py i)), some (pI a), some (pI mr), y5, y6, y7] [] S zI zL 0 0 Q := by
        intro g
        induction g with
        | zero =>
          intro i hi a mr y5 y6 y7 a0 a1 hx hy hmr
          rw [if_neg (by omega)] at hmr
          subst hmr
          refine r_iload rfl rfl ?_
          refine r_if_eq rfl (by unfold inI; omega) (fun h51 => ?_) (fun h51 => ?_)
          · skip
            refine r_iload_n rfl rfl ?_
            refine r_iret rfl ?_
            rw [show i = len by omega, ← hr]; exact hQ
          · skip
            exact absurd rfl h51
        | succ g ih =>
          intro i hi a mr y5 y6 y7 a0 a1 hx hy hmr
          rw [if_pos (by omega)] at hmr
          subst hmr
          obtain ⟨e1, ⟨t, t0, t1, e2⟩, e3⟩ := c6 i (by omega)
          have rgf := hrg f f0 f1
          have lin := v_ringIn (X := X) (d := d) (Q := Q) (zL := zL) (f := f) (ar := arP px py i) hS hm hm0 hm1 hrg ⟨a0, a1⟩ hx hy e1 e3 (fun nx y7 hb => by
            obtain ⟨b0, b1, b2⟩ : 0 ≤ nx ∧ zI 194 nx = px (i + 1) ∧ zI 195 nx = py (i + 1) := by
              rcases hb.2 with q | q
              · exact q
              · exact absurd e2 (q t t0 t1)
            have b3 : nx < m := by rcases hb.1 with q | ⟨-, q, -⟩ <;> omega
            have rgn := hrg nx b0 b3
            have nxt : ∀ mr, mr = (if i + 1 < len then 1 else 0) → Run X (d + 1) c_M_ringArea 152 [some (pR 184), some (pI f), some (pI (arP px py (i + 1))), some (pI nx), some (pI 1), some (pI nx), some (pI m), y7] [pI mr] S zI zL 0 0 Q := by
              intro mr hmr
              refine r_istore rfl (Nat.le_of_ble_eq_true rfl) ?_
              refine r_goto rfl ?_
              exact ih (i + 1) (by omega) nx mr _ _ _ b0 b3 b1 b2 hmr
            refine r_iload rfl rfl ?_
            refine r_if_ge rfl (by unfold inI; omega) (fun h104 => ?_) (fun h104 => ?_)
            · skip
              refine r_iload_n rfl rfl ?_
              refine r_aload_n rfl rfl ?_
              refine r_getR rfl (so184 hS) (sr184_15 hS) ?_
              refine r_iload_n rfl rfl ?_
              refine r_iald rfl (sw194 hS) (by omega) (by omega) ?_
              rw [hx]
              refine r_aload_n rfl rfl ?_
              refine r_getR rfl (so184 hS) (sr184_16 hS) ?_
              refine r_iload rfl rfl ?_
              refine r_iald rfl (sw195 hS) (by omega) (by omega) ?_
              rw [b2]
              refine r_imul rfl ?_
              refine r_aload_n rfl rfl ?_
              refine r_getR rfl (so184 hS) (sr184_15 hS) ?_
              refine r_iload rfl rfl ?_
              refine r_iald rfl (sw194 hS) (by omega) (by omega) ?_
              rw [b1]
              refine r_aload_n rfl rfl ?_
              refine r_getR rfl (so184 hS) (sr184_16 hS) ?_
              refine r_iload_n rfl rfl ?_
              refine r_iald rfl (sw195 hS) (by omega) (by omega) ?_
              rw [hy]
              refine r_imul rfl ?_
              refine r_isub rfl ?_
              refine r_iadd rfl ?_
              refine r_istore_n rfl (Nat.le_of_ble_eq_true rfl) ?_
              refine r_iload rfl rfl ?_
              refine r_istore_n rfl (Nat.le_of_ble_eq_true rfl) ?_
              refine r_aload_n rfl rfl ?_
              refine r_getR rfl (so184 hS) (sr184_15 hS) ?_
              refine r_iload_n rfl rfl ?_
              refine r_iald rfl (sw194 hS) (by omega) (by omega) ?_
              rw [b1]
              refine r_aload_n rfl rfl ?_
              refine r_getR rfl (so184 hS) (sr184_15 hS) ?_
              refine r_iload_n rfl rfl ?_
              refine r_iald rfl (sw194 hS) (by omega) (by omega) ?_
              rw [hf.1]
              refine r_icmp_ne rfl (by unfold inI; omega) (by unfold inI; omega) (fun h139 => ?_) (fun h139 => ?_)
              · skip
                refine r_iconst rfl ?_
                refine r_goto rfl ?_
                refine nxt 1 ?_
                rw [if_pos]
                rcases Nat.lt_or_ge (i + 1) len with q | q
                · exact q
                · rw [show i + 1 = len by omega] at h139; exact absurd c4.1 h139
              · skip
                refine r_aload_n rfl rfl ?_
                refine r_getR rfl (so184 hS) (sr184_16 hS) ?_
                refine r_iload_n rfl rfl ?_
                refine r_iald rfl (sw195 hS) (by omega) (by omega) ?_
                rw [b2]
                refine r_aload_n rfl rfl ?_
                refine r_getR rfl (so184 hS) (sr184_16 hS) ?_
                refine r_iload_n rfl rfl ?_
                refine r_iald rfl (sw195 hS) (by omega) (by omega) ?_
                rw [hf.2]
                refine r_icmp_eq rfl (by unfold inI; omega) (by unfold inI; omega) (fun h148 => ?_) (fun h148 => ?_)
                · skip
                  refine r_iconst rfl ?_
                  refine nxt 0 ?_
                  rw [if_neg]
                  intro q
                  exact c5 (i + 1) (by omega) q ⟨h139, h148⟩
                · skip
                  refine r_iconst rfl ?_
                  refine r_goto rfl ?_
                  refine nxt 1 ?_
                  rw [if_pos]
                  rcases Nat.lt_or_ge (i + 1) len with q | q
                  · exact q
                  · rw [show i + 1 = len by omega] at h148; exact absurd c4.2 h148
            · skip
              omega)
          refine r_iload rfl rfl ?_
          refine r_if_eq rfl (by unfold inI; omega) (fun h51 => ?_) (fun h51 => ?_)
          · skip
            exact absurd h51 (by decide)
          · skip
            refine r_iconst rfl ?_
            refine r_istore rfl (Nat.le_of_ble_eq_true rfl) ?_
            refine r_iconst rfl ?_
            refine r_istore rfl (Nat.le_of_ble_eq_true rfl) ?_
            exact lin 0 hm0 (Int.le_refl _) (-1) _ ⟨Or.inl rfl, Or.inr (fun s s0 s1 => by omega)⟩
      exact lp len 0 (by omega) f 1 none none none f0 f1 hf.1 hf.2 (by rw [if_pos (by omega)])
  have lp1 : 0 < m → ∀ k : Int, k ≤ m → 1 ≤ k → ∀ f : Int, 0 ≤ f → f < k → (∀ t, 0 ≤ t → t < k → zI 194 f < zI 194 t ∨ (zI 194 f = zI 194 t ∧ zI 195 f ≤ zI 195 t)) → Run X (d + 1) c_M_ringArea 9 [some (pR 184), some (pI f), some (pI k), none, none, none, none, none] [] S zI zL 0 0 Q := by
    intro hmp
    refine loop_up _ m (fun k hk ih h0 f f0 f1 hl => ?_)
    have rgf := hrg f f0 (by omega)
    refine r_iload_n rfl rfl ?_
    refine r_aload_n rfl rfl ?_
    refine r_getI rfl (so184 hS) ?_
    rw [hm]
    refine r_icmp_ge rfl (by unfold inI; omega) (by unfold inI; omega) (fun h12 => ?_) (fun h12 => ?_)
    · skip
      refine r_iconst rfl ?_
      refine r_istore_n rfl (Nat.le_of_ble_eq_true rfl) ?_
      refine r_iload_n rfl rfl ?_
      refine r_istore_n rfl (Nat.le_of_ble_eq_true rfl) ?_
      refine r_iconst rfl ?_
      refine r_istore rfl (Nat.le_of_ble_eq_true rfl) ?_
      exact outer hmp f f0 (by omega) (fun t t0 t1 => hl t t0 (by omega))
    · skip
      have hkm : k < m := by omega
      have rgk := hrg k (by omega) hkm
      refine r_aload_n rfl rfl ?_
      refine r_getR rfl (so184 hS) (sr184_15 hS) ?_
      refine r_iload_n rfl rfl ?_
      refine r_iald rfl (sw194 hS) (by omega) (by omega) ?_
      refine r_aload_n rfl rfl ?_
      refine r_getR rfl (so184 hS) (sr184_15 hS) ?_
      refine r_iload_n rfl rfl ?_
      refine r_iald rfl (sw194 hS) (by omega) (by omega) ?_
      refine r_icmp_lt rfl (by unfold inI; omega) (by unfold inI; omega) (fun h21 => ?_) (fun h21 => ?_)
      · skip
        refine r_iload_n rfl rfl ?_
        refine r_istore_n rfl (Nat.le_of_ble_eq_true rfl) ?_
        refine r_iinc rfl rfl ?_
        refine r_goto rfl ?_
        refine ih hkm (by omega) k (by omega) (by omega) (fun t t0 t1 => ?_)
        by_cases e : t = k
        · rw [e]; omega
        · have := hl t t0 (by omega); omega
      · skip
        refine r_aload_n rfl rfl ?_
        refine r_getR rfl (so184 hS) (sr184_15 hS) ?_
        refine r_iload_n rfl rfl ?_
        refine r_iald rfl (sw194 hS) (by omega) (by omega) ?_
        refine r_aload_n rfl rfl ?_
        refine r_getR rfl (so184 hS) (sr184_15 hS) ?_
        refine r_iload_n rfl rfl ?_
        refine r_iald rfl (sw194 hS) (by omega) (by omega) ?_
        refine r_icmp_ne rfl (by unfold inI; omega) (by unfold inI; omega) (fun h30 => ?_) (fun h30 => ?_)
        · skip
          refine r_iinc rfl rfl ?_
          refine r_goto rfl ?_
          refine ih hkm (by omega) f f0 (by omega) (fun t t0 t1 => ?_)
          by_cases e : t = k
          · rw [e]; omega
          · exact hl t t0 (by omega)
        · skip
          refine r_aload_n rfl rfl ?_
          refine r_getR rfl (so184 hS) (sr184_16 hS) ?_
          refine r_iload_n rfl rfl ?_
          refine r_iald rfl (sw195 hS) (by omega) (by omega) ?_
          refine r_aload_n rfl rfl ?_
          refine r_getR rfl (so184 hS) (sr184_16 hS) ?_
          refine r_iload_n rfl rfl ?_
          refine r_iald rfl (sw195 hS) (by omega) (by omega) ?_
          refine r_icmp_ge rfl (by unfold inI; omega) (by unfold inI; omega) (fun h39 => ?_) (fun h39 => ?_)
          · skip
            refine r_iinc rfl rfl ?_
            refine r_goto rfl ?_
            refine ih hkm (by omega) f f0 (by omega) (fun t t0 t1 => ?_)
            by_cases e : t = k
            · rw [e]; omega
            · exact hl t t0 (by omega)
          · skip
            refine r_iload_n rfl rfl ?_
            refine r_istore_n rfl (Nat.le_of_ble_eq_true rfl) ?_
            refine r_iinc rfl rfl ?_
            refine r_goto rfl ?_
            refine ih hkm (by omega) k (by omega) (by omega) (fun t t0 t1 => ?_)
            by_cases e : t = k
            · rw [e]; omega
            · have := hl t t0 (by omega); omega
  refine wp_in (C := c_M_ringArea) (ls := [some (pR 184), none, none, none, none, none, none, none]) rfl rfl rfl rfl rfl ?_
  refine r_aload_n rfl rfl ?_
  refine r_getI rfl (so184 hS) ?_
  rw [hm]
  refine r_if_ne rfl (by unfold inI; omega) (fun h2 => ?_) (fun h2 => ?_)
  · skip
    refine r_iconst rfl ?_
    refine r_istore_n rfl (Nat.le_of_ble_eq_true rfl) ?_
    refine r_iconst rfl ?_
    refine r_istore_n rfl (Nat.le_of_ble_eq_true rfl) ?_
    exact lp1 (by omega) 1 (by omega) (Int.le_refl _) 0 (Int.le_refl _) (by omega) (fun t t0 t1 => by rw [show t = 0 by omega]; omega)
  · skip
    refine r_iconst rfl ?_
    refine r_iret rfl ?_
    have hr0 : r = 0 := by
        rcases hcs with ⟨-, q⟩ | ⟨q, -⟩ | ⟨len, px, py, ⟨-, -, ⟨t, t0, t1, -⟩, -⟩, -⟩
        · exact q
        · omega
        · omega
    rw [← hr0]; exact hQ
theorem FM_frR {z z' : ZM} {g n : Int} {I J V : Int → Int} (h : FM z g n I J V) (hz : frR z' z) : FM z' g n I J V := FM_fr h (fun c k0 k1 => hz.1 c (by omega) (by omega) (by omega))
theorem frR_0 {z' z : ZM} {v : Int} (h : frR z' z) : frR (zput z' 184 17 v) z := ⟨fun c a b e => by rw [zput_row a]; exact h.1 c a b e, fun k hk => by rw [zput_off hk]; exact h.2 k hk⟩
theorem RM_0 {z : ZM} {A B : Int → Int} : RM (zput z 184 17 0) 0 A B := ⟨zput_at, fun t t0 t1 => by omega⟩
theorem frR_r (z : ZM) : frR z z := ⟨fun _ _ _ _ => rfl, fun _ _ => rfl⟩
theorem ringOK_RM {z : ZM} {m r : Int} {A B : Int → Int} (h : RM z m A B) (hr : ringOK m A B r) : ringOK m (z 194) (z 195) r := ringOK_congr hr (fun t t0 t1 => h.2 t t0 t1)
set_option maxHeartbeats 4000000 in
theorem x_areaOf {X : PX} {d : Nat} {S : SS} {zI zL : ZM} {Q : PQ} (hS : Sk S) {f n : Int} {I J V : Int → Int} (hf : 0 ≤ f ∧ f ≤ 10) (hT : FM zI f n I J V) (hR : FR n I J V) {r : Int} (hr : ringOK n I J r) (hQ : ∀ z, frR z zI → Q (some (pI r)) S z zL) : wpM X (d + 3) fM_areaOf [pR 184, pI f] S zI zL Q := by
  have hT0 := hT
  have hR0 := hR
  obtain ⟨e4, hel⟩ := hT
  obtain ⟨hn0, hn40, hrg⟩ := hR
  have key : ∀ k : Int, k ≤ n → 0 ≤ k → ∀ (z : ZM) (u : Int), u = 40 * f + k → frR z zI → RM z k I J → Run X (d + 2) c_M_areaOf 7 [some (pR 184), some (pI f), some (pI u)] [] S z zL 0 0 Q := by
    refine loop_up _ n (fun k hk ih h0 z u hu hz hM => ?_)
    have e4z : z 186 f = n := by rw [hz.1 186 (by decide) (by decide) (by decide)]; exact e4
    refine r_iload_n rfl rfl ?_
    refine r_bipush rfl ?_
    refine r_iload_n rfl rfl ?_
    refine r_imul rfl ?_
    refine r_aload_n rfl rfl ?_
    refine r_getR rfl (so184 hS) (sr184_2 hS) ?_
    refine r_iload_n rfl rfl ?_
    refine r_iald rfl (sw186 hS) (by omega) (by omega) ?_
    rw [e4z]
    refine r_iadd rfl ?_
    refine r_icmp_ge rfl (by unfold inI; omega) (by unfold inI; omega) (fun h16 => ?_) (fun h16 => ?_)
    · skip
      refine r_aload_n rfl rfl ?_
      refine r_cV1 rfl (so184 hS) (Nat.le_of_ble_eq_true rfl) rfl rfl (x_ringArea hS hM.1 (ringOK_RM hM (by rw [show k = n by omega]; exact hr)) ?_)
      refine r_iret rfl ?_
      exact hQ z hz
    · skip
      obtain ⟨g1, g2, g3⟩ := hel k h0 (by omega)
      have rg := hrg k h0 (by omega)
      rw [← hu, ← hz.1 187 (by decide) (by decide) (by decide)] at g1
      rw [← hu, ← hz.1 188 (by decide) (by decide) (by decide)] at g2
      refine r_aload_n rfl rfl ?_
      refine r_aload_n rfl rfl ?_
      refine r_getR rfl (so184 hS) (sr184_3 hS) ?_
      refine r_iload_n rfl rfl ?_
      refine r_iald rfl (sw187 hS) (by omega) (by omega) ?_
      rw [g1]
      refine r_aload_n rfl rfl ?_
      refine r_getR rfl (so184 hS) (sr184_4 hS) ?_
      refine r_iload_n rfl rfl ?_
      refine r_iald rfl (sw188 hS) (by omega) (by omega) ?_
      rw [g2]
      refine r_cV3 rfl (so184 hS) (Nat.le_of_ble_eq_true rfl) rfl rfl (x_ringAdd hS hM h0 (by omega) (fun z2 f2 hM2 => ?_))
      refine r_iinc rfl rfl ?_
      refine r_goto rfl ?_
      refine ih (by omega) (by omega) z2 _ (by omega) (frR_t hz f2) ⟨hM2.1, fun t t0 t1 => ?_⟩
      obtain ⟨q1, q2⟩ := hM2.2 t t0 t1
      rw [q1, q2]
      unfold updF
      by_cases e : t = k
      · rw [if_pos e, if_pos e, e]; exact ⟨rfl, rfl⟩
      · rw [if_neg e, if_neg e]; exact ⟨rfl, rfl⟩
  refine wp_in (C := c_M_areaOf) (ls := [some (pR 184), some (pI f), none]) rfl rfl rfl rfl rfl ?_
  refine r_aload_n rfl rfl ?_
  refine r_iconst rfl ?_
  refine r_putI rfl (so184 hS) ?_
  refine r_bipush rfl ?_
  refine r_iload_n rfl rfl ?_
  refine r_imul rfl ?_
  refine r_istore_n rfl (Nat.le_of_ble_eq_true rfl) ?_
  exact key 0 hn0 (Int.le_refl _) _ _ (by omega) (frR_0 (frR_r zI)) RM_0
set_option maxHeartbeats 4000000 in
theorem x_partArea {X : PX} {d : Nat} {S : SS} {zI zL : ZM} {Q : PQ} (hS : Sk S) {f n : Int} {I J V : Int → Int} (hf : 0 ≤ f ∧ f ≤ 10) (hT : FM zI f n I J V) (hR : FR n I J V) {c x xd y yd r : Int} (hc : 0 ≤ c ∧ c < 1560) (hx : zL 204 (4 * c) = x ∧ zL 204 (4 * c + 1) = xd ∧ zL 204 (4 * c + 2) = y ∧ zL 204 (4 * c + 3) = yd) (hB : PB x xd y yd) (hpos : 0 < n) (hr : ringOK (selS (fun t => decide (wv (I t) (J t) (V t) x xd y yd = leastS n I J V x xd y yd)) n I J).1 (selS (fun t => decide (wv (I t) (J t) (V t) x xd y yd = leastS n I J V x xd y yd)) n I J).2.1 (selS (fun t => decide (wv (I t) (J t) (V t) x xd y yd = leastS n I J V x xd y yd)) n I J).2.2 r) (hQ : ∀ z, frR z zI → Q (some (pI r)) S z (stM zL x xd y yd)) : wpM X (d + 3) fM_partArea [pR 184, pI f, pI c] S zI zL Q := by
  have hT0 := hT
  have hR0 := hR
  obtain ⟨e4, hel⟩ := hT
  obtain ⟨hn0, hn40, hrg⟩ := hR
  obtain ⟨x1, x2, x3, x4⟩ := hx
  have hP : PM (stM zL x xd y yd) x xd y yd := PM_st
  have hlb := leastS_b hR0 hB
  have key : ∀ k : Int, k ≤ n → 0 ≤ k → ∀ (z : ZM) (u : Int) (s : Int × (Int → Int) × (Int → Int)), u = 40 * f + k → frR z zI → RM z s.1 s.2.1 s.2.2 → 0 ≤ s.1 → s.1 ≤ k → selW (fun t => decide (wv (I t) (J t) (V t) x xd y yd = leastS n I J V x xd y yd)) I J (n - k).toNat k s = selS (fun t => decide (wv (I t) (J t) (V t) x xd y yd = leastS n I J V x xd y yd)) n I J → Run X (d + 2) c_M_partArea 14 [some (pR 184), some (pI f), some (pI c), some (pL (leastS n I J V x xd y yd)), none, some (pI u)] [] S z (stM zL x xd y yd) 0 0 Q := by
    refine loop_up _ n (fun k hk ih h0 z u s hu hz hM s0 s1 hs => ?_)
    have e4z : z 186 f = n := by rw [hz.1 186 (by decide) (by decide) (by decide)]; exact e4
    refine r_iload rfl rfl ?_
    refine r_bipush rfl ?_
    refine r_iload_n rfl rfl ?_
    refine r_imul rfl ?_
    refine r_aload_n rfl rfl ?_
    refine r_getR rfl (so184 hS) (sr184_2 hS) ?_
    refine r_iload_n rfl rfl ?_
    refine r_iald rfl (sw186 hS) (by omega) (by omega) ?_
    rw [e4z]
    refine r_iadd rfl ?_
    refine r_icmp_ge rfl (by unfold inI; omega) (by unfold inI; omega) (fun h23 => ?_) (fun h23 => ?_)
    · skip
      rw [selW_e (by omega)] at hs
      refine r_aload_n rfl rfl ?_
      refine r_cV1 rfl (so184 hS) (Nat.le_of_ble_eq_true rfl) rfl rfl (x_ringArea hS hM.1 (ringOK_RM hM (by rw [hs]; exact hr)) ?_)
      refine r_iret rfl ?_
      exact hQ z hz
    · skip
      obtain ⟨g1, g2, g3⟩ := hel k h0 (by omega)
      have rg := hrg k h0 (by omega)
      have hwk := wv_b ⟨rg.1, rg.2.1⟩ ⟨rg.2.2.1, rg.2.2.2.1⟩ rg.2.2.2.2 hB
      rw [← hu, ← hz.1 187 (by decide) (by decide) (by decide)] at g1
      rw [← hu, ← hz.1 188 (by decide) (by decide) (by decide)] at g2
      rw [selW_s (by omega)] at hs
      refine r_aload_n rfl rfl ?_
      refine r_iload rfl rfl ?_
      refine r_cV2 rfl (so184 hS) (Nat.le_of_ble_eq_true rfl) rfl rfl (x_worthOf hS hf (FM_frR hT0 hz) hR0 hP h0 (by omega) hu ?_)
      refine r_lload_n rfl rfl ?_
      refine r_l_ne rfl rfl (by unfold inL; omega) (by unfold inL; omega) (fun h29 => ?_) (fun h29 => ?_)
      · skip
        refine r_iinc rfl rfl ?_
        refine r_goto rfl ?_
        rw [if_neg (by simp only [decide_eq_true_eq]; exact h29)] at hs
        exact ih (by omega) (by omega) z _ s (by omega) hz hM s0 (by omega) hs
      · skip
        refine r_aload_n rfl rfl ?_
        refine r_aload_n rfl rfl ?_
        refine r_getR rfl (so184 hS) (sr184_3 hS) ?_
        refine r_iload rfl rfl ?_
        refine r_iald rfl (sw187 hS) (by omega) (by omega) ?_
        rw [g1]
        refine r_aload_n rfl rfl ?_
        refine r_getR rfl (so184 hS) (sr184_4 hS) ?_
        refine r_iload rfl rfl ?_
        refine r_iald rfl (sw188 hS) (by omega) (by omega) ?_
        rw [g2]
        refine r_cV3 rfl (so184 hS) (Nat.le_of_ble_eq_true rfl) rfl rfl (x_ringAdd hS hM s0 (by omega) (fun z2 f2 hM2 => ?_))
        refine r_iinc rfl rfl ?_
        refine r_goto rfl ?_
        rw [if_pos (by simp only [decide_eq_true_eq]; exact h29)] at hs
        exact ih (by omega) (by omega) z2 _ _ (by omega) (frR_t hz f2) hM2 (by show 0 ≤ s.1 + 1; omega) (by show s.1 + 1 ≤ k + 1; omega) hs
  refine wp_in (C := c_M_partArea) (ls := [some (pR 184), some (pI f), some (pI c), none, none, none]) rfl rfl rfl rfl rfl ?_
  refine r_aload_n rfl rfl ?_
  refine r_iload_n rfl rfl ?_
  refine r_cV2 rfl (so184 hS) (Nat.le_of_ble_eq_true rfl) rfl rfl (x_standC hS hc.1 hc.2 ?_)
  rw [x1, x2, x3, x4]
  refine r_aload_n rfl rfl ?_
  refine r_iload_n rfl rfl ?_
  refine r_cV2 rfl (so184 hS) (Nat.le_of_ble_eq_true rfl) rfl rfl (x_leastOf hS hf hT0 hR0 hP hB hpos ?_)
  refine r_lstore_n rfl (Nat.le_of_ble_eq_true rfl) ?_
  refine r_aload_n rfl rfl ?_
  refine r_iconst rfl ?_
  refine r_putI rfl (so184 hS) ?_
  refine r_bipush rfl ?_
  refine r_iload_n rfl rfl ?_
  refine r_imul rfl ?_
  refine r_istore rfl (Nat.le_of_ble_eq_true rfl) ?_
  exact key 0 hn0 (Int.le_refl _) _ _ (0, fun _ => 0, fun _ => 0) (by omega) (frR_0 (frR_r zI)) RM_0 (Int.le_refl _) (Int.le_refl _) (by rw [Int.sub_zero]; rfl)
