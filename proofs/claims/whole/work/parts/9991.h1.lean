/-! GEOMETRY: the rings -/
section RG2
variable {A B : Int → Int}
def stp (m : Int) (A B : Int → Int) (x y : Int) : Prop := (0 ≤ x ∧ x < m) ∧ (0 ≤ y ∧ y < m) ∧ x ≠ y ∧ ∀ t, 0 ≤ t → t < m → onL (A x) (B x) (A y) (B y) (A t) (B t)
theorem dot_id (p q u v : Int) (h : cr p q u v = 0) : ph p q * (p * u + q * v) = ph u v * (p * p + q * q) := by
  have e : ph p q * (p * u + q * v) - ph u v * (p * p + q * q) = (9 * q - p) * cr p q u v := by unfold ph cr; grind
  rw [h, Int.mul_zero] at e
  omega
theorem dot_b {p q u v : Int} (h : cr p q u v = 0) (hp : 0 < ph p q) (h0 : 0 ≤ ph u v) (h1 : ph u v ≤ ph p q) : 0 ≤ p * u + q * v ∧ p * u + q * v ≤ p * p + q * q := by
  have e := dot_id p q u v h
  have n0 : 0 ≤ p * p + q * q := by have := sq_nn p; have := sq_nn q; omega
  generalize p * p + q * q = N at e n0 ⊢
  generalize p * u + q * v = D at e ⊢
  generalize ph p q = P at e hp h1
  generalize ph u v = U at e h0 h1
  constructor
  · exact Int.nonneg_of_mul_nonneg_right (by rw [e]; exact Int.mul_nonneg h0 n0) hp
  · have g : 0 ≤ P * (N - D) := by
      rw [Int.mul_sub, e, ← Int.sub_mul]
      exact Int.mul_nonneg (by omega) n0
    have := Int.nonneg_of_mul_nonneg_right g hp
    omega
theorem stp_up {m a b : Int} (hP : srtP m A B) (hE : CEd A B 1 m a b) : stp m A B a b := by
  obtain ⟨⟨a0, ab, bm⟩, h⟩ := hE
  refine ⟨⟨a0, by omega⟩, ⟨by omega, bm⟩, by omega, fun t t0 t1 => ?_⟩
  obtain ⟨h1, h2⟩ := h t t0 t1
  rw [Int.one_mul] at h1 h2
  have e : crP (A a) (B a) (A b) (B b) (A t) (B t) = trn A B a b t := by unfold crP trn; grind
  unfold onL
  rw [e]
  rcases (show 0 < trn A B a b t ∨ trn A B a b t = 0 by omega) with c | c
  · exact Or.inl c
  · obtain ⟨k1, k2⟩ := h2 c
    rw [tr_cr] at c ⊢
    refine Or.inr ⟨c, dot_b c (sp_ph hP a0 ab bm) (sp_ph0 hP a0 k1 t1) ?_⟩
    have := sp_ph0 hP t0 k2 bm
    unfold ph at this ⊢
    omega
theorem stp_dn {m a b : Int} (hP : srtP m A B) (hE : CEd A B (-1) m a b) : stp m A B b a := by
  obtain ⟨⟨a0, ab, bm⟩, h⟩ := hE
  refine ⟨⟨by omega, bm⟩, ⟨a0, by omega⟩, by omega, fun t t0 t1 => ?_⟩
  obtain ⟨h1, h2⟩ := h t t0 t1
  have e : crP (A b) (B b) (A a) (B a) (A t) (B t) = -1 * trn A B a b t := by unfold crP trn; grind
  unfold onL
  rw [e]
  rcases (show 0 < -1 * trn A B a b t ∨ -1 * trn A B a b t = 0 by omega) with c | c
  · exact Or.inl c
  · obtain ⟨k1, k2⟩ := h2 c
    have c3 : trn A B a b t = 0 := by omega
    rw [tr_cr] at c3
    have d := dot_b c3 (sp_ph hP a0 ab bm) (sp_ph0 hP a0 k1 t1) (by
      have := sp_ph0 hP t0 k2 bm
      unfold ph at this ⊢
      omega)
    have e1 : (A a - A b) * (A t - A b) + (B a - B b) * (B t - B b) = ((A b - A a) * (A b - A a) + (B b - B a) * (B b - B a)) - ((A b - A a) * (A t - A a) + (B b - B a) * (B t - B a)) := by grind
    have e2 : (A a - A b) * (A a - A b) + (B a - B b) * (B a - B b) = (A b - A a) * (A b - A a) + (B b - B a) * (B b - B a) := by grind
    rw [e1, e2]
    exact Or.inr ⟨c, by omega, by omega⟩
theorem arP_c {px py px' py' : Nat → Int} : ∀ {k : Nat}, (∀ i, i ≤ k → px' i = px i ∧ py' i = py i) → arP px' py' k = arP px py k
  | 0, _ => rfl
  | k + 1, h => by
    show arP px' py' k + _ = arP px py k + _
    rw [arP_c (fun i hi => h i (by omega)), (h k (by omega)).1, (h k (by omega)).2, (h (k + 1) (Nat.le_refl _)).1, (h (k + 1) (Nat.le_refl _)).2]
def wext (w : Nat → Int) (len : Nat) (b : Int) : Nat → Int := fun i => if i ≤ len then w i else b
theorem wext_o {w : Nat → Int} {len : Nat} {b : Int} {i : Nat} (h : i ≤ len) : wext w len b i = w i := if_pos h
theorem wext_n {w : Nat → Int} {len : Nat} {b : Int} : wext w len b (len + 1) = b := if_neg (by omega)
theorem arP_x {w : Nat → Int} {len : Nat} {b : Int} : arP (fun i => A (wext w len b i)) (fun i => B (wext w len b i)) (len + 1) = arP (fun i => A (w i)) (fun i => B (w i)) len + (A (w len) * B b - A b * B (w len)) := by
  show arP _ _ len + (A (wext w len b len) * B (wext w len b (len + 1)) - A (wext w len b (len + 1)) * B (wext w len b len)) = _
  rw [wext_n, wext_o (Nat.le_refl _), arP_c (px := fun i => A (w i)) (py := fun i => B (w i)) (fun i hi => by rw [wext_o hi]; exact ⟨rfl, rfl⟩)]
theorem stp_x {m : Int} {w : Nat → Int} {len : Nat} {b : Int} (h : ∀ i, i < len → stp m A B (w i) (w (i + 1))) (hb : stp m A B (w len) b) : ∀ i, i < len + 1 → stp m A B (wext w len b i) (wext w len b (i + 1)) := by
  intro i hi
  by_cases e : i = len
  · rw [e, wext_n, wext_o (Nat.le_refl _)]; exact hb
  · rw [wext_o (by omega), wext_o (by omega)]; exact h i (by omega)
theorem wk_up {m : Int} (hP : srtP m A B) : ∀ (l : List Int) (b : Int), chC A B 1 m (b :: l) → (l = [] → b = 0) → ∃ (w : Nat → Int) (len : Nat), w 0 = 0 ∧ w len = b ∧ (∀ i, i < len → stp m A B (w i) (w (i + 1))) ∧ (∀ i, 0 < i → i ≤ len → w i ≠ 0) ∧ arP (fun i => A (w i)) (fun i => B (w i)) len = arS A B (b :: l)
  | [], b, _, h => ⟨fun _ => 0, 0, rfl, (h rfl).symm, fun i hi => absurd hi (Nat.not_lt_zero i), fun i hi hj => by omega, rfl⟩
  | a :: r, b, h, _ => by
    obtain ⟨hE, h2, h3⟩ := h
    obtain ⟨w, len, w0, w1, w2, w3, w4⟩ := wk_up hP r a h3 (fun e => by rw [e] at h2; exact h2)
    refine ⟨wext w len b, len + 1, (wext_o (by omega)).trans w0, wext_n, stp_x w2 (by rw [w1]; exact stp_up hP hE), fun i i0 i1 => ?_, ?_⟩
    · by_cases e : i = len + 1
      · rw [e, wext_n]; have := hE.1; omega
      · rw [wext_o (by omega)]; exact w3 i i0 (by omega)
    · rw [arP_x, w1, w4]; rfl
theorem wk_dn {m : Int} (hP : srtP m A B) : ∀ (l : List Int) (b : Int), chC A B (-1) m (b :: l) → (l = [] → b = 0) → ∀ (w : Nat → Int) (len : Nat), w 0 = 0 → w len = b → (∀ i, i < len → stp m A B (w i) (w (i + 1))) → (l ≠ [] → ∀ i, 0 < i → i ≤ len → w i ≠ 0) → (∀ i, 0 < i → i < len → w i ≠ 0) → ∃ (w' : Nat → Int) (len' : Nat), len ≤ len' ∧ w' 0 = 0 ∧ w' len' = 0 ∧ (∀ i, i < len' → stp m A B (w' i) (w' (i + 1))) ∧ (∀ i, 0 < i → i < len' → w' i ≠ 0) ∧ arP (fun i => A (w' i)) (fun i => B (w' i)) len' = arP (fun i => A (w i)) (fun i => B (w i)) len - arS A B (b :: l)
  | [], b, _, h, w, len, w0, w1, w2, _, w4 => ⟨w, len, Nat.le_refl _, w0, w1.trans (h rfl), w2, w4, (Int.sub_zero _).symm⟩
  | a :: r, b, h, _, w, len, w0, w1, w2, w3, _ => by
    obtain ⟨hE, h2, h3⟩ := h
    have w3 := w3 (by simp)
    have old : ∀ i, 0 < i → i < len + 1 → wext w len a i ≠ 0 := fun i i0 i1 => by rw [wext_o (by omega)]; exact w3 i i0 (by omega)
    obtain ⟨w', len', g1, g2, g3, g4, g5, g6⟩ := wk_dn hP r a h3 (fun e => by rw [e] at h2; exact h2) (wext w len a) (len + 1) ((wext_o (by omega)).trans w0) wext_n (stp_x w2 (by rw [w1]; exact stp_dn hP hE)) (fun hr i i0 i1 => by
      by_cases e : i = len + 1
      · rw [e, wext_n]
        cases r with
        | nil => exact absurd rfl hr
        | cons c r => have := h3.1.1; omega
      · exact old i i0 (by omega)) old
    refine ⟨w', len', by omega, g2, g3, g4, g5, ?_⟩
    rw [g6, arP_x, w1]
    show _ = _ - (arS A B (a :: r) + (A a * B b - A b * B a))
    omega
theorem chn_1 {s : Int} (hP : srtP 1 A B) (hs : s = 1 ∨ s = -1) : arS A B (chn s 1 A B) = 0 := by
  obtain ⟨h1, -, h3⟩ := chn_I hP hs
  obtain ⟨r, hr, -⟩ := h3 (by omega)
  rw [hr] at h1 ⊢
  cases r with
  | nil => rfl
  | cons a r => have := h1.1.1; omega
theorem ring_ok {m : Int} (hP : srtP m A B) (hm : m ≤ 1700) : ringOK m A B (areaR m A B) := by
  refine ⟨⟨hP.1, hm, fun t t0 t1 => by have := hP.2.1 t t0 t1; omega⟩, ?_⟩
  rcases (show m = 0 ∨ m = 1 ∨ 2 ≤ m by have := hP.1; omega) with c | c | c
  · refine Or.inl ⟨c, ?_⟩
    have e1 := (chn_I hP (Or.inl rfl)).2.1 c
    have e2 := (chn_I hP (Or.inr rfl)).2.1 c
    unfold areaR
    rw [e1, e2]; rfl
  · refine Or.inr (Or.inl ⟨by omega, fun t t0 t1 => by rw [show t = 0 by omega]; exact ⟨rfl, rfl⟩, ?_⟩)
    rw [c] at hP ⊢
    unfold areaR
    rw [chn_1 hP (Or.inl rfl), chn_1 hP (Or.inr rfl)]; rfl
  · refine Or.inr (Or.inr ?_)
    obtain ⟨u1, -, u3⟩ := chn_I hP (Or.inl rfl)
    obtain ⟨v1, -, v3⟩ := chn_I hP (Or.inr rfl)
    obtain ⟨r, hr, r0⟩ := u3 (by omega)
    obtain ⟨r', hr', r0'⟩ := v3 (by omega)
    unfold areaR
    rw [hr] at u1 ⊢
    rw [hr'] at v1 ⊢
    obtain ⟨w, len, w0, w1, w2, w3, w4⟩ := wk_up hP r (m - 1) u1 r0
    obtain ⟨w', len', g1, g2, g3, g4, g5, g6⟩ := wk_dn hP r' (m - 1) v1 r0' w len w0 w1 w2 (fun _ => w3) (fun i i0 i1 => w3 i i0 (by omega))
    have len1 : 1 ≤ len := by
      rcases Nat.eq_zero_or_pos len with e | e
      · rw [e, w0] at w1; omega
      · exact e
    have dist : ∀ x y, 0 ≤ x → x < m → 0 ≤ y → y < m → x ≠ y → ¬ (A y = A x ∧ B y = B x) := by
      intro x y x0 x1 y0 y1 ne h
      rcases (show x < y ∨ y < x by omega) with k | k
      · have := hP.2.2 x y x0 k y1; unfold lexlt at this; omega
      · have := hP.2.2 y x y0 k x1; unfold lexlt at this; omega
    refine ⟨len', fun i => A (w' i), fun i => B (w' i), ⟨by omega, fun t t0 t1 => ?_, ⟨0, Int.le_refl _, by omega, by dsimp only; rw [g2]; exact ⟨rfl, rfl⟩⟩, by dsimp only; rw [g2, g3]; exact ⟨rfl, rfl⟩, fun i i0 i1 h => ?_, fun i hi => ?_⟩, by rw [g6, w4]⟩
    · dsimp only
      rw [g2]
      by_cases e : t = 0
      · rw [e]; exact Or.inr ⟨rfl, Int.le_refl _⟩
      · have := hP.2.2 0 t (Int.le_refl _) (by omega) t1; unfold lexlt at this; omega
    · dsimp only at h
      rw [g2] at h
      have q := g5 i i0 i1
      have s := g4 i i1
      exact dist 0 (w' i) (Int.le_refl _) (by omega) s.1.1 s.1.2 (fun e => q e.symm) h
    · obtain ⟨s1, s2, s3, s4⟩ := g4 i hi
      exact ⟨dist _ _ s1.1 s1.2 s2.1 s2.2 s3, ⟨w' (i + 1), s2.1, s2.2, rfl, rfl⟩, s4⟩
/-- the same places, told in another order -/
theorem ringOK_set {m m' r : Int} {A' B' : Int → Int} (h : ringOK m A B r) (g0 : 0 ≤ m') (g1 : m' ≤ 1700) (g2 : ∀ t, 0 ≤ t → t < m' → (0 ≤ A' t ∧ A' t ≤ 16) ∧ (0 ≤ B' t ∧ B' t ≤ 16)) (f1 : ∀ t, 0 ≤ t → t < m → ∃ u, 0 ≤ u ∧ u < m' ∧ A' u = A t ∧ B' u = B t) (f2 : ∀ u, 0 ≤ u → u < m' → ∃ t, 0 ≤ t ∧ t < m ∧ A t = A' u ∧ B t = B' u) : ringOK m' A' B' r := by
  refine ⟨⟨g0, g1, g2⟩, ?_⟩
  rcases h.2 with ⟨h1, h2⟩ | ⟨h0, h1, h2⟩ | ⟨len, px, py, ⟨c1, c2, ⟨t, t0, t1, c3⟩, c4, c5, c6⟩, hr⟩
  · refine Or.inl ⟨?_, h2⟩
    rcases (show m' = 0 ∨ 0 < m' by omega) with k | k
    · exact k
    · obtain ⟨t, t0, t1, -⟩ := f2 0 (Int.le_refl _) k; omega
  · obtain ⟨u, u0, u1, -⟩ := f1 0 (Int.le_refl _) h0
    refine Or.inr (Or.inl ⟨by omega, fun t t0 t1 => ?_, h2⟩)
    obtain ⟨x, x0, x1, x2⟩ := f2 t t0 t1
    obtain ⟨y, y0, y1, y2⟩ := f2 0 (Int.le_refl _) (by omega)
    have := h1 x x0 x1
    have := h1 y y0 y1
    omega
  · refine Or.inr (Or.inr ⟨len, px, py, ⟨c1, fun u u0 u1 => ?_, ?_, c4, c5, fun i hi => ?_⟩, hr⟩)
    · obtain ⟨x, x0, x1, x2⟩ := f2 u u0 u1
      rw [← x2.1, ← x2.2]; exact c2 x x0 x1
    · obtain ⟨u, u0, u1, u2⟩ := f1 t t0 t1
      exact ⟨u, u0, u1, by rw [u2.1, u2.2]; exact c3⟩
    · obtain ⟨d1, ⟨t, t0, t1, d2⟩, d3⟩ := c6 i hi
      obtain ⟨u, u0, u1, u2⟩ := f1 t t0 t1
      refine ⟨d1, ⟨u, u0, u1, by rw [u2.1, u2.2]; exact d2⟩, fun u u0 u1 => ?_⟩
      obtain ⟨x, x0, x1, x2⟩ := f2 u u0 u1
      rw [← x2.1, ← x2.2]; exact d3 x x0 x1
/-- the places taken are in their order -/
def selI (p : Int → Bool) (n : Int) (I J : Int → Int) (t : Int) (s : Int × (Int → Int) × (Int → Int)) : Prop := srtP s.1 s.2.1 s.2.2 ∧ s.1 ≤ t ∧ (∀ i, 0 ≤ i → i < s.1 → ∃ t', 0 ≤ t' ∧ t' < t ∧ p t' = true ∧ s.2.1 i = I t' ∧ s.2.2 i = J t') ∧ ∀ t', 0 ≤ t' → t' < t → p t' = true → ∃ i, 0 ≤ i ∧ i < s.1 ∧ s.2.1 i = I t' ∧ s.2.2 i = J t'
theorem selW_I {p : Int → Bool} {n : Int} {I J : Int → Int} (hP : srtP n I J) : ∀ (f : Nat) (t : Int) (s : Int × (Int → Int) × (Int → Int)), 0 ≤ t → t + f = n → selI p n I J t s → selI p n I J n (selW p I J f t s)
  | 0, t, s, _, e, h => by rw [show n = t by omega]; exact h
  | f + 1, t, s, t0, e, h => by
    refine selW_I hP f (t + 1) _ (by omega) (by omega) ?_
    obtain ⟨⟨h1, h2, h3⟩, h4, h5, h6⟩ := h
    by_cases c : p t = true
    · rw [if_pos c]
      have on : updF s.2.1 s.1 (I t) s.1 = I t ∧ updF s.2.2 s.1 (J t) s.1 = J t := ⟨if_pos rfl, if_pos rfl⟩
      have oo : ∀ i, i ≠ s.1 → updF s.2.1 s.1 (I t) i = s.2.1 i ∧ updF s.2.2 s.1 (J t) i = s.2.2 i := fun i hi => ⟨if_neg hi, if_neg hi⟩
      refine ⟨⟨by omega, fun i i0 i1 => ?_, fun i j i0 ij j1 => ?_⟩, by dsimp only; omega, fun i i0 i1 => ?_, fun t' q0 q1 q2 => ?_⟩
      · dsimp only at i1 ⊢
        by_cases ei : i = s.1
        · rw [ei, on.1, on.2]; exact hP.2.1 t t0 (by omega)
        · rw [(oo i ei).1, (oo i ei).2]; exact h2 i i0 (by omega)
      · dsimp only at j1 ⊢
        have ei : i ≠ s.1 := by omega
        rw [(oo i ei).1, (oo i ei).2]
        by_cases ej : j = s.1
        · rw [ej, on.1, on.2]
          obtain ⟨t', k0, k1, -, k3, k4⟩ := h5 i i0 (by omega)
          rw [k3, k4]
          exact hP.2.2 t' t k0 k1 (by omega)
        · rw [(oo j ej).1, (oo j ej).2]; exact h3 i j i0 ij (by omega)
      · dsimp only at i1 ⊢
        by_cases ei : i = s.1
        · rw [ei, on.1, on.2]; exact ⟨t, t0, by omega, c, rfl, rfl⟩
        · rw [(oo i ei).1, (oo i ei).2]
          obtain ⟨t', k0, k1, k2⟩ := h5 i i0 (by omega)
          exact ⟨t', k0, by omega, k2⟩
      · by_cases et : t' = t
        · rw [et]; exact ⟨s.1, h1, by dsimp only; omega, on.1, on.2⟩
        · obtain ⟨i, k0, k1, k2⟩ := h6 t' q0 (by omega) q2
          refine ⟨i, k0, by dsimp only; omega, ?_⟩
          dsimp only
          rw [(oo i (by omega)).1, (oo i (by omega)).2]; exact k2
    · rw [if_neg c]
      refine ⟨⟨h1, h2, h3⟩, by omega, fun i i0 i1 => ?_, fun t' q0 q1 q2 => ?_⟩
      · obtain ⟨t', k0, k1, k2⟩ := h5 i i0 i1
        exact ⟨t', k0, by omega, k2⟩
      · by_cases et : t' = t
        · rw [et] at q2; exact absurd q2 c
        · exact h6 t' q0 (by omega) q2
theorem selS_I {p : Int → Bool} {n : Int} {I J : Int → Int} (hP : srtP n I J) : selI p n I J n (selS p n I J) := selW_I hP n.toNat 0 _ (Int.le_refl _) (by have := hP.1; omega) ⟨⟨Int.le_refl _, fun t t0 t1 => absurd t1 (by dsimp only; omega), fun s t s0 s1 t1 => absurd t1 (by dsimp only; omega)⟩, Int.le_refl _, fun i i0 i1 => absurd i1 (by dsimp only; omega), fun t t0 t1 => by omega⟩
theorem srtP_FR {n : Int} {I J V : Int → Int} (hR : FR n I J V) (hS : FS n I J) : srtP n I J := ⟨hR.1, fun t t0 t1 => by have := hR.2.2 t t0 t1; omega, fun s t s0 s1 t1 => hS s t s0 s1 t1⟩
theorem RGa_ok {a : FA} (h : FOK a) : RGa a := by
  intro f f0 f1
  obtain ⟨hR, hS, -⟩ := h.2 f f0 f1
  have hP := srtP_FR hR hS
  refine ⟨ring_ok hP (by have := hR.2.1; omega), fun k k0 k1 => ?_⟩
  obtain ⟨s1, s2, -⟩ := selS_I (p := (fun t => decide (wv (gI a f t) (gJ a f t) (gV a f t) ((crA a f).2.1 k) ((crA a f).2.2.1 k) ((crA a f).2.2.2.1 k) ((crA a f).2.2.2.2.1 k) = leastS (gN a f) (gI a f) (gJ a f) (gV a f) ((crA a f).2.1 k) ((crA a f).2.2.1 k) ((crA a f).2.2.2.1 k) ((crA a f).2.2.2.2.1 k)))) hP
  exact ring_ok s1 (by have := hR.2.1; omega)
theorem addT_some {p u : Int} {I J V : Int → Int} : ∀ (m : Nat) (k : Int) (G : Int → Option Int) (q : Int), (∀ t, k ≤ t → t < k + m → ¬ (8 < p / 9 + I t ∨ 8 < p % 9 + J t)) → ((addT p u I J V m k G q).isSome = true ↔ ((G q).isSome = true ∨ ∃ t, k ≤ t ∧ t < k + m ∧ q = (p / 9 + I t) * 9 + (p % 9 + J t)))
  | 0, k, G, q, _ => ⟨fun h => Or.inl h, fun h => by
      rcases h with h | ⟨t, t0, t1, -⟩
      · exact h
      · omega⟩
  | m + 1, k, G, q, hb => by
    have hk : ¬ bey1 p (I k) (J k) = true := fun e => hb k (Int.le_refl _) (by omega) (bey1_t.mp e)
    have ih := addT_some (p := p) (u := u) (V := V) (I := I) (J := J) m (k + 1) (gl G ((p / 9 + I k) * 9 + (p % 9 + J k)) (u + V k)) q (fun t t0 t1 => hb t (by omega) (by omega))
    show (addT p u I J V m (k + 1) (if bey1 p (I k) (J k) then G else gl G ((p / 9 + I k) * 9 + (p % 9 + J k)) (u + V k)) q).isSome = true ↔ _
    rw [if_neg hk, ih, gl_some]
    constructor
    · rintro ((h | h) | ⟨t, t0, t1, t2⟩)
      · exact Or.inl h
      · exact Or.inr ⟨k, Int.le_refl _, by omega, h⟩
      · exact Or.inr ⟨t, by omega, by omega, t2⟩
    · rintro (h | ⟨t, t0, t1, t2⟩)
      · exact Or.inl (Or.inl h)
      · by_cases e : t = k
        · rw [e] at t2; exact Or.inl (Or.inr t2)
        · exact Or.inr ⟨t, by omega, by omega, t2⟩
theorem addO_some {G1 : Int → Option Int} {n : Int} {I J V : Int → Int} (hn : 0 ≤ n) : ∀ (m : Nat) (p : Int) (G : Int → Option Int) (q : Int), (∀ r, p ≤ r → r < p + m → (G1 r).isSome = true → ∀ t, 0 ≤ t → t < n → ¬ (8 < r / 9 + I t ∨ 8 < r % 9 + J t)) → ((addO G1 n I J V m p G q).isSome = true ↔ ((G q).isSome = true ∨ ∃ r t, (p ≤ r ∧ r < p + m) ∧ (G1 r).isSome = true ∧ (0 ≤ t ∧ t < n) ∧ q = (r / 9 + I t) * 9 + (r % 9 + J t)))
  | 0, p, G, q, _ => ⟨fun h => Or.inl h, fun h => by
      rcases h with h | ⟨r, t, ⟨t0, t1⟩, -⟩
      · exact h
      · omega⟩
  | m + 1, p, G, q, hb => by
    show (addO G1 n I J V m (p + 1) (match G1 p with | none => G | some u => addT p u I J V n.toNat 0 G) q).isSome = true ↔ _
    rw [addO_some hn m (p + 1) _ q (fun r r0 r1 => hb r (by omega) (by omega))]
    have key : ((match G1 p with | none => G | some u => addT p u I J V n.toNat 0 G) q).isSome = true ↔ ((G q).isSome = true ∨ (G1 p).isSome = true ∧ ∃ t, (0 ≤ t ∧ t < n) ∧ q = (p / 9 + I t) * 9 + (p % 9 + J t)) := by
      cases hg : G1 p with
      | none => exact ⟨fun h => Or.inl h, fun h => by rcases h with h | ⟨h, -⟩; exact h; cases h⟩
      | some u =>
        dsimp only
        rw [addT_some n.toNat 0 G q (fun t t0 t1 => hb p (Int.le_refl _) (by omega) (by rw [hg]; rfl) t t0 (by omega))]
        constructor
        · rintro (h | ⟨t, t0, t1, t2⟩)
          · exact Or.inl h
          · exact Or.inr ⟨rfl, t, ⟨t0, by omega⟩, t2⟩
        · rintro (h | ⟨-, t, ⟨t0, t1⟩, t2⟩)
          · exact Or.inl h
          · exact Or.inr ⟨t, t0, by omega, t2⟩
    rw [key]
    constructor
    · rintro ((h | ⟨h1, t, h2, h3⟩) | ⟨r, t, ⟨r0, r1⟩, r2, r3, r4⟩)
      · exact Or.inl h
      · exact Or.inr ⟨p, t, ⟨Int.le_refl _, by omega⟩, h1, h2, h3⟩
      · exact Or.inr ⟨r, t, ⟨by omega, by omega⟩, r2, r3, r4⟩
    · rintro (h | ⟨r, t, ⟨r0, r1⟩, r2, r3, r4⟩)
      · exact Or.inl (Or.inl h)
      · by_cases e : r = p
        · rw [e] at r2 r4; exact Or.inl (Or.inr ⟨r2, t, r3, r4⟩)
        · exact Or.inr ⟨r, t, ⟨by omega, by omega⟩, r2, r3, r4⟩
theorem sumG_some {n n2 : Int} {I J V I2 J2 V2 : Int → Int} (hR : FR n I J V) (hR2 : FR n2 I2 J2 V2) (hb : ¬ sumB (loadG n I J V) n2 I2 J2 = true) (q : Int) : (sumG (loadG n I J V) n2 I2 J2 V2 q).isSome = true ↔ ∃ s t, (0 ≤ s ∧ s < n) ∧ (0 ≤ t ∧ t < n2) ∧ q = (I s + I2 t) * 9 + (J s + J2 t) := by
  have nb : ∀ s t, (0 ≤ s ∧ s < n) → (0 ≤ t ∧ t < n2) → ¬ (8 < I s + I2 t ∨ 8 < J s + J2 t) := fun s t hs ht h => hb ((sumB_iff hR hR2.1).mpr ⟨s, t, hs, ht, h⟩)
  unfold sumG
  rw [addO_some hR2.1 81 0 _ q (fun r r0 r1 r2 t t0 t1 => by
    obtain ⟨s, s0, s1, s2⟩ := (loadG_some hR.1 r).mp r2
    have := nb s t ⟨s0, s1⟩ ⟨t0, t1⟩
    obtain ⟨q1, q2, q3, q4, -⟩ := hR.2.2 s s0 s1
    omega)]
  constructor
  · rintro (h | ⟨r, t, ⟨r0, r1⟩, r2, r3, r4⟩)
    · cases h
    · obtain ⟨s, s0, s1, s2⟩ := (loadG_some hR.1 r).mp r2
      obtain ⟨q1, q2, q3, q4, -⟩ := hR.2.2 s s0 s1
      exact ⟨s, t, ⟨s0, s1⟩, r3, by omega⟩
  · rintro ⟨s, t, ⟨s0, s1⟩, ht, e⟩
    obtain ⟨q1, q2, q3, q4, -⟩ := hR.2.2 s s0 s1
    exact Or.inr ⟨I s * 9 + J s, t, ⟨by omega, by omega⟩, (loadG_some hR.1 _).mpr ⟨s, s0, s1, rfl⟩, ht, by omega⟩
theorem AMa_ok {a : FA} (h : FOK a) : AMa a := by
  intro f g ef eg pf pg hx
  obtain ⟨hR, hS, -⟩ := h.2 f ef.1 ef.2
  obtain ⟨hR2, hS2, -⟩ := h.2 g eg.1 eg.2
  have hb : ¬ sumB (loadG (gN a f) (gI a f) (gJ a f) (gV a f)) (gN a g) (gI a g) (gJ a g) = true := by
    unfold amX at hx; rw [hx]; decide
  have nb : ∀ s t, (0 ≤ s ∧ s < gN a f) → (0 ≤ t ∧ t < gN a g) → ¬ (8 < gI a f s + gI a g t ∨ 8 < gJ a f s + gJ a g t) := fun s t hs ht h => hb ((sumB_iff hR hR2.1).mpr ⟨s, t, hs, ht, h⟩)
  have hP : srtP 81 (fun p => p / 9) (fun p => p % 9) := ⟨by decide, fun t t0 t1 => by dsimp only; omega, fun s t s0 s1 t1 => by unfold lexlt; dsimp only; omega⟩
  obtain ⟨s1, s2, s3, s4⟩ := selS_I (p := fun p => (sumOf a f g p).isSome) hP
  have nn : 0 ≤ gN a f * gN a g ∧ gN a f * gN a g ≤ 1600 := by
    have k1 := Int.mul_nonneg hR.1 hR2.1
    have k2 := Int.mul_le_mul hR.2.1 hR2.2.1 hR2.1 (by decide)
    omega
  have dm : ∀ t, 0 ≤ t → t < gN a f * gN a g → (0 ≤ t / gN a g ∧ t / gN a g < gN a f) ∧ (0 ≤ t % gN a g ∧ t % gN a g < gN a g) := fun t t0 t1 =>
    ⟨⟨Int.ediv_nonneg t0 (by omega), Int.ediv_lt_of_lt_mul (by omega) t1⟩, Int.emod_nonneg _ (by omega), Int.emod_lt_of_pos _ pg⟩
  refine ringOK_set (ring_ok s1 (by omega)) nn.1 (by omega) (fun t t0 t1 => ?_) (fun i i0 i1 => ?_) (fun u u0 u1 => ?_)
  · obtain ⟨d1, d2⟩ := dm t t0 t1
    have r1 := hR.2.2 _ d1.1 d1.2
    have r2 := hR2.2.2 _ d2.1 d2.2
    unfold amA amB
    omega
  · obtain ⟨p, p0, p1, p2, p3, p4⟩ := s3 i i0 i1
    obtain ⟨s, t, hs, ht, e⟩ := (sumG_some hR hR2 hb p).mp p2
    have r1 := hR.2.2 s hs.1 hs.2
    have r2 := hR2.2.2 t ht.1 ht.2
    have r3 := nb s t hs ht
    obtain ⟨d1, d2⟩ := dm_n (s := s) (n := gN a g) ht.1 ht.2
    have l1 : s * gN a g + t < gN a f * gN a g := by
      have := Int.mul_le_mul_of_nonneg_right (show s + 1 ≤ gN a f by omega) hR2.1
      rw [Int.add_mul] at this; omega
    refine ⟨s * gN a g + t, by have := Int.mul_nonneg hs.1 hR2.1; omega, l1, ?_⟩
    unfold amA amB
    rw [d1, d2, p3, p4]
    dsimp only
    omega
  · obtain ⟨d1, d2⟩ := dm u u0 u1
    have r1 := hR.2.2 _ d1.1 d1.2
    have r2 := hR2.2.2 _ d2.1 d2.2
    have r3 := nb _ _ d1 d2
    have hq : (sumOf a f g ((gI a f (u / gN a g) + gI a g (u % gN a g)) * 9 + (gJ a f (u / gN a g) + gJ a g (u % gN a g)))).isSome = true := (sumG_some hR hR2 hb _).mpr ⟨_, _, d1, d2, rfl⟩
    obtain ⟨i, i0, i1, i2, i3⟩ := s4 ((gI a f (u / gN a g) + gI a g (u % gN a g)) * 9 + (gJ a f (u / gN a g) + gJ a g (u % gN a g))) (by omega) (by omega) hq
    refine ⟨i, i0, i1, ?_⟩
    unfold amA amB
    rw [i2, i3]
    dsimp only
    omega
end RG2
