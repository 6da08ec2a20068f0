/-! GEOMETRY: the two chains are a walk about the places -/
theorem pos_l {a b : Int} (h : 0 < a * b) (ha : 0 < a) : 0 < b := by
  rcases (show 0 < b ∨ b ≤ 0 by omega) with k | k
  · exact k
  · have := Int.mul_nonneg (Int.le_of_lt ha) (show 0 ≤ -b by omega)
    rw [Int.mul_neg] at this
    omega
section RG
variable {A B : Int → Int}
/-- places in their order -/
def srtP (m : Int) (A B : Int → Int) : Prop := 0 ≤ m ∧ (∀ t, 0 ≤ t → t < m → (0 ≤ A t ∧ A t ≤ 8) ∧ (0 ≤ B t ∧ B t ≤ 8)) ∧ ∀ s t, 0 ≤ s → s < t → t < m → lexlt (A s) (B s) (A t) (B t)
theorem sp_ph {m s t : Int} (h : srtP m A B) (h0 : 0 ≤ s) (h1 : s < t) (h2 : t < m) : 0 < ph (A t - A s) (B t - B s) := by
  have k := h.2.2 s t h0 h1 h2
  have r1 := h.2.1 s h0 (by omega)
  have r2 := h.2.1 t (by omega) h2
  unfold lexlt at k
  unfold ph
  omega
theorem sp_ph0 {m s t : Int} (h : srtP m A B) (h0 : 0 ≤ s) (h1 : s ≤ t) (h2 : t < m) : 0 ≤ ph (A t - A s) (B t - B s) := by
  by_cases e : s = t
  · rw [e, Int.sub_self, Int.sub_self]; decide
  · exact Int.le_of_lt (sp_ph h h0 (by omega) h2)
def CEd (A B : Int → Int) (s k a b : Int) : Prop := (0 ≤ a ∧ a < b ∧ b < k) ∧ ∀ t, 0 ≤ t → t < k → 0 ≤ s * trn A B a b t ∧ (s * trn A B a b t = 0 → a ≤ t ∧ t ≤ b)
def chC (A B : Int → Int) (s k : Int) : List Int → Prop
  | b :: a :: r => CEd A B s k a b ∧ (match r with | c :: _ => 0 < s * trn A B c a b | [] => a = 0) ∧ chC A B s k (a :: r)
  | [x] => True
  | [] => True
/-- what the chain is after k places -/
def chI (A B : Int → Int) (s k : Int) (l : List Int) : Prop := chC A B s k l ∧ (k = 0 → l = []) ∧ (0 < k → ∃ r, l = (k - 1) :: r ∧ (r = [] → k - 1 = 0))
theorem tr_cr (a b c : Int) : trn A B a b c = cr (A b - A a) (B b - B a) (A c - A a) (B c - B a) := by unfold trn cr; grind
theorem sgn2 {s x : Int} (hs : s = 1 ∨ s = -1) : s * (s * x) = x := by rcases hs with e | e <;> (rw [e]; omega)
/-- taking the last place off: what is right of its way stays right of the new one -/
theorem pop_V {m s a b k t : Int} (hP : srtP m A B) (hs : s = 1 ∨ s = -1) (hk : k < m) (hE : CEd A B s k a b) (hpop : s * trn A B a b k ≤ 0) (h0 : a ≤ t) (h1 : t < k) : 0 ≤ s * trn A B a k t := by
  obtain ⟨⟨a0, ab, bk⟩, hE⟩ := hE
  have h2 := (hE t (by omega) h1).1
  have pP := sp_ph hP a0 ab (by omega)
  have pK := sp_ph hP a0 (show a < k by omega) hk
  have pT := sp_ph0 hP a0 h0 (show t < m by omega)
  have id3 := ph3 (A b - A a) (B b - B a) (A k - A a) (B k - B a) (A t - A a) (B t - B a)
  rw [tr_cr] at h2 hpop ⊢
  have e1 : cr (A t - A a) (B t - B a) (A b - A a) (B b - B a) = -cr (A b - A a) (B b - B a) (A t - A a) (B t - B a) := by unfold cr; grind
  rw [e1] at id3
  generalize cr (A b - A a) (B b - B a) (A t - A a) (B t - B a) = x at h2 id3
  generalize cr (A b - A a) (B b - B a) (A k - A a) (B k - B a) = y at hpop id3
  generalize cr (A k - A a) (B k - B a) (A t - A a) (B t - B a) = z at id3 ⊢
  have g1 := Int.mul_nonneg (Int.le_of_lt pK) h2
  have g2 := Int.mul_nonneg pT (show 0 ≤ -(s * y) by omega)
  have e : ph (A b - A a) (B b - B a) * (s * z) = ph (A k - A a) (B k - B a) * (s * x) + ph (A t - A a) (B t - B a) * -(s * y) := by
    have : s * (ph (A b - A a) (B b - B a) * z + ph (A k - A a) (B k - B a) * -x + ph (A t - A a) (B t - B a) * y) = 0 := by rw [id3, Int.mul_zero]
    grind
  exact Int.nonneg_of_mul_nonneg_right (show 0 ≤ ph (A b - A a) (B b - B a) * (s * z) by omega) pP
/-- what is before the last place kept -/
theorem keep_V {m s c a k t : Int} (hP : srtP m A B) (hs : s = 1 ∨ s = -1) (hk : k < m) (hE : CEd A B s k c a) (hkp : 0 < s * trn A B c a k) (h0 : 0 ≤ t) (h1 : t < a) : 0 < s * trn A B a k t := by
  obtain ⟨⟨c0, ca, ak⟩, hE⟩ := hE
  have h2 := (hE t h0 (by omega)).1
  have pP := sp_ph hP c0 ca (by omega)
  have pK := sp_ph hP (show 0 ≤ a by omega) ak hk
  have pT := sp_ph hP h0 h1 (by omega)
  have id3 := ph3 (A a - A t) (B a - B t) (A a - A c) (B a - B c) (A k - A a) (B k - B a)
  have e1 : trn A B c a t = cr (A a - A t) (B a - B t) (A a - A c) (B a - B c) := by unfold trn cr; grind
  have e2 : trn A B c a k = cr (A a - A c) (B a - B c) (A k - A a) (B k - B a) := by unfold trn cr; grind
  have e3 : trn A B a k t = -cr (A k - A a) (B k - B a) (A a - A t) (B a - B t) := by unfold trn cr; grind
  rw [e1] at h2
  rw [e2] at hkp
  rw [e3]
  generalize cr (A a - A t) (B a - B t) (A a - A c) (B a - B c) = x at h2 id3
  generalize cr (A a - A c) (B a - B c) (A k - A a) (B k - B a) = y at hkp id3
  generalize cr (A k - A a) (B k - B a) (A a - A t) (B a - B t) = z at id3 ⊢
  have g1 := Int.mul_pos pT hkp
  have g2 := Int.mul_nonneg (Int.le_of_lt pK) h2
  have e : ph (A a - A c) (B a - B c) * (s * -z) = ph (A a - A t) (B a - B t) * (s * y) + ph (A k - A a) (B k - B a) * (s * x) := by
    have : s * (ph (A a - A t) (B a - B t) * y + ph (A a - A c) (B a - B c) * z + ph (A k - A a) (B k - B a) * x) = 0 := by rw [id3, Int.mul_zero]
    grind
  exact pos_l (by omega) pP
/-- the ways that are kept, and the new place -/
theorem keep_E {m s d c a k : Int} (hP : srtP m A B) (hs : s = 1 ∨ s = -1) (hk : k < m) (d0 : 0 ≤ d) (hdc : d < c) (hca : c < a) (hak : a < k) (h1 : 0 < s * trn A B d c a) (h2 : 0 < s * trn A B c a k) : 0 < s * trn A B d c k := by
  have p1 := sp_ph hP d0 hdc (by omega)
  have p2 := sp_ph hP (show 0 ≤ c by omega) hca (by omega)
  have p3 := sp_ph hP (show 0 ≤ a by omega) hak hk
  have id3 := ph3 (A c - A d) (B c - B d) (A a - A c) (B a - B c) (A k - A a) (B k - B a)
  have e1 : trn A B d c a = cr (A c - A d) (B c - B d) (A a - A c) (B a - B c) := by unfold trn cr; grind
  have e2 : trn A B c a k = cr (A a - A c) (B a - B c) (A k - A a) (B k - B a) := by unfold trn cr; grind
  have e3 : trn A B d c k = cr (A c - A d) (B c - B d) (A a - A c) (B a - B c) - cr (A k - A a) (B k - B a) (A c - A d) (B c - B d) := by unfold trn cr; grind
  rw [e1] at h1
  rw [e2] at h2
  rw [e3]
  generalize cr (A c - A d) (B c - B d) (A a - A c) (B a - B c) = x at h1 id3 ⊢
  generalize cr (A a - A c) (B a - B c) (A k - A a) (B k - B a) = y at h2 id3
  generalize cr (A k - A a) (B k - B a) (A c - A d) (B c - B d) = z at id3 ⊢
  have g1 := Int.mul_pos p1 h2
  have g2 := Int.mul_pos p3 h1
  have e : ph (A a - A c) (B a - B c) * (s * -z) = ph (A c - A d) (B c - B d) * (s * y) + ph (A k - A a) (B k - B a) * (s * x) := by
    have : s * (ph (A c - A d) (B c - B d) * y + ph (A a - A c) (B a - B c) * z + ph (A k - A a) (B k - B a) * x) = 0 := by rw [id3, Int.mul_zero]
    grind
  have g3 : 0 < s * -z := pos_l (by omega) p2
  have e4 : s * (x - z) = s * x + s * -z := by grind
  omega
/-- one place more: the ways that are kept -/
theorem chC_up {m s k : Int} (hP : srtP m A B) (hs : s = 1 ∨ s = -1) (h0 : 0 ≤ k) (hk : k < m) : ∀ (l : List Int), chC A B s k l → (∀ a b r, l = b :: a :: r → 0 < s * trn A B a b k) → chC A B s (k + 1) l
  | [], _, _ => trivial
  | [x], _, _ => trivial
  | b :: a :: r, h, ht => by
    obtain ⟨⟨⟨a0, ab, bk⟩, h1⟩, h2, h3⟩ := h
    have tk := ht a b r rfl
    refine ⟨⟨⟨a0, ab, by omega⟩, fun t t0 t1 => ?_⟩, h2, chC_up hP hs h0 hk (a :: r) h3 (fun a' b' r' e => ?_)⟩
    · by_cases e : t = k
      · rw [e]; exact ⟨Int.le_of_lt tk, fun q => by omega⟩
      · exact h1 t t0 (by omega)
    · have e1 : b' = a := by have := (List.cons.inj e).1; omega
      have e2 : r = a' :: r' := (List.cons.inj e).2
      rw [e2] at h2 h3
      have h2 : 0 < s * trn A B a' a b := h2
      rw [e1]
      exact keep_E hP hs hk h3.1.1.1 h3.1.1.2.1 ab bk h2 tk
theorem chI_s {m s k : Int} (hP : srtP m A B) (hs : s = 1 ∨ s = -1) (h0 : 0 < k) (hk : k < m) : ∀ (l : List Int), l ≠ [] → chC A B s k l → (∀ a r, l = a :: r → (0 ≤ a ∧ a < k) ∧ (r = [] → a = 0) ∧ ∀ t, a ≤ t → t < k → 0 ≤ s * trn A B a k t) → chC A B s (k + 1) (k :: popW s A B k l) ∧ popW s A B k l ≠ []
  | [], h, _, _ => absurd rfl h
  | [x], _, _, hV => by
    obtain ⟨⟨x0, xk⟩, hx, hV⟩ := hV x [] rfl
    have hx := hx rfl
    refine ⟨⟨⟨⟨x0, xk, by omega⟩, fun t t0 t1 => ?_⟩, hx, trivial⟩, by unfold popW; simp⟩
    by_cases e : t = k
    · rw [e]
      have : trn A B x k k = 0 := by unfold trn; grind
      rw [this, Int.mul_zero]; exact ⟨Int.le_refl _, fun _ => ⟨by omega, Int.le_refl _⟩⟩
    · exact ⟨hV t (by omega) (by omega), fun _ => ⟨by omega, by omega⟩⟩
  | b :: a :: r, _, h, hV => by
    obtain ⟨⟨b0, bk⟩, -, hVb⟩ := hV b (a :: r) rfl
    have hh := h
    obtain ⟨hE, h2, h3⟩ := h
    unfold popW
    by_cases c : s * trn A B a b k ≤ 0
    · rw [if_pos c]
      refine chI_s hP hs h0 hk (a :: r) (by simp) h3 (fun a' r' e => ?_)
      have e1 : a' = a := by have := (List.cons.inj e).1; omega
      have e2 : r = r' := (List.cons.inj e).2
      rw [e1]
      refine ⟨⟨hE.1.1, by have := hE.1.2.1; omega⟩, fun q => ?_, fun t t0 t1 => pop_V hP hs hk hE c t0 t1⟩
      rw [e2, q] at h2; exact h2
    · rw [if_neg c]
      have c : 0 < s * trn A B a b k := by omega
      refine ⟨⟨⟨⟨b0, bk, by omega⟩, fun t t0 t1 => ?_⟩, c, chC_up hP hs (by omega) hk _ hh (fun a' b' r' e => ?_)⟩, by simp⟩
      · by_cases e : t = k
        · rw [e]
          have : trn A B b k k = 0 := by unfold trn; grind
          rw [this, Int.mul_zero]; exact ⟨Int.le_refl _, fun _ => ⟨by omega, Int.le_refl _⟩⟩
        · by_cases e2 : b ≤ t
          · exact ⟨hVb t e2 (by omega), fun _ => ⟨e2, by omega⟩⟩
          · have := keep_V hP hs hk hE c t0 (by omega)
            exact ⟨by omega, fun q => by omega⟩
      · have e1 := (List.cons.inj e).1
        have e2 := (List.cons.inj (List.cons.inj e).2).1
        rw [← e1, ← e2]; exact c
theorem chW_I {m s : Int} (hP : srtP m A B) (hs : s = 1 ∨ s = -1) : ∀ (f : Nat) (k : Int) (l : List Int), 0 ≤ k → k + f = m → chI A B s k l → chI A B s m (chW s A B f k l)
  | 0, k, l, _, e, h => by rw [show m = k by omega]; exact h
  | f + 1, k, l, h0, e, h => by
    refine chW_I hP hs f (k + 1) _ (by omega) (by omega) ?_
    obtain ⟨h1, h2, h3⟩ := h
    by_cases c : k = 0
    · rw [h2 c, c]
      exact ⟨trivial, fun q => by omega, fun _ => ⟨[], by rw [show (0 : Int) + 1 - 1 = 0 by omega]; rfl, fun _ => by omega⟩⟩
    · obtain ⟨r, hr, hr0⟩ := h3 (by omega)
      have st := chI_s hP hs (by omega) (by omega) l (by rw [hr]; simp) h1 (fun a r' e => by
        rw [hr] at e
        have e1 : k - 1 = a := (List.cons.inj e).1
        have e2 : r = r' := (List.cons.inj e).2
        rw [← e1, ← e2]
        refine ⟨⟨by omega, by omega⟩, hr0, fun t t0 t1 => ?_⟩
        have : t = k - 1 := by omega
        rw [this]
        have : trn A B (k - 1) k (k - 1) = 0 := by unfold trn; grind
        rw [this, Int.mul_zero]; exact Int.le_refl _)
      exact ⟨st.1, fun q => by omega, fun _ => ⟨_, by rw [show k + 1 - 1 = k by omega], fun q => absurd q st.2⟩⟩
theorem chn_I {m s : Int} (hP : srtP m A B) (hs : s = 1 ∨ s = -1) : chI A B s m (chn s m A B) := chW_I hP hs m.toNat 0 [] (Int.le_refl _) (by have := hP.1; omega) ⟨trivial, fun _ => rfl, fun q => by omega⟩
end RG
