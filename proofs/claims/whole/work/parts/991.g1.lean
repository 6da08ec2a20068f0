/-! GEOMETRY over whole numbers: crosses, an order of directions, the stretch of two terms -/
def cr (a b c d : Int) : Int := a * d - b * c
def ph (a b : Int) : Int := 9 * a + b
theorem ph3 (a b c d e f : Int) : ph a b * cr c d e f + ph c d * cr e f a b + ph e f * cr a b c d = 0 := by unfold ph cr; grind
/-- for a linear p x + q y -/
theorem ph_u (p q a b c d : Int) : ph c d * (p * a + q * b) - ph a b * (p * c + q * d) = cr a b c d * (p - 9 * q) := by unfold ph cr; grind
theorem fr_tr {a b c d e f : Int} (hb : 0 < b) (hd : 0 < d) (hf : 0 < f) (h1 : a * d ≤ c * b) (h2 : c * f ≤ e * d) : a * f ≤ e * b := by
  have h3 := Int.mul_le_mul_of_nonneg_right h1 (Int.le_of_lt hf)
  have h4 := Int.mul_le_mul_of_nonneg_right h2 (Int.le_of_lt hb)
  have e1 : a * d * f = d * (a * f) := by grind
  have e2 : c * b * f = c * f * b := by grind
  have e3 : e * d * b = d * (e * b) := by grind
  exact Int.le_of_mul_le_mul_left (by omega) hd
theorem fr_lt {a b c d e f : Int} (hb : 0 < b) (hd : 0 < d) (hf : 0 < f) (h1 : a * d ≤ c * b) (h2 : c * f < e * d) : a * f < e * b := by
  have h3 := Int.mul_le_mul_of_nonneg_right h1 (Int.le_of_lt hf)
  have h4 := Int.mul_lt_mul_of_pos_right h2 hb
  have e1 : a * d * f = d * (a * f) := by grind
  have e2 : c * b * f = c * f * b := by grind
  have e3 : e * d * b = d * (e * b) := by grind
  exact Int.lt_of_mul_lt_mul_left (by omega) (Int.le_of_lt hd)
theorem fr_lt2 {a b c d e f : Int} (hb : 0 < b) (hd : 0 < d) (hf : 0 < f) (h1 : a * d < c * b) (h2 : c * f ≤ e * d) : a * f < e * b := by
  have h3 := Int.mul_lt_mul_of_pos_right h1 hf
  have h4 := Int.mul_le_mul_of_nonneg_right h2 (Int.le_of_lt hb)
  have e1 : a * d * f = d * (a * f) := by grind
  have e2 : c * b * f = c * f * b := by grind
  have e3 : e * d * b = d * (e * b) := by grind
  exact Int.lt_of_mul_lt_mul_left (by omega) (Int.le_of_lt hd)
section ST
variable {n : Int} {I J V : Int → Int} {a b : Int}
def liL (I J V : Int → Int) (a b l k : Int) : Prop := (l = -1 ∨ 0 < trE I J a b l) ∧ ∀ t, 0 ≤ t → t < k → 0 < trE I J a b t → l ≠ -1 ∧ -(rsE I J V a b t) * trE I J a b l ≤ -(rsE I J V a b l) * trE I J a b t
def liG (I J V : Int → Int) (a b g k : Int) : Prop := (g = -1 ∨ trE I J a b g < 0) ∧ ∀ t, 0 ≤ t → t < k → trE I J a b t < 0 → g ≠ -1 ∧ rsE I J V a b g * -(trE I J a b t) ≤ rsE I J V a b t * -(trE I J a b g)
theorem liL_s {l k : Int} (h : liL I J V a b l k) (hk : 0 ≤ k) : liL I J V a b (stL I J V a b l k) (k + 1) := by
  obtain ⟨h1, h2⟩ := h
  unfold stL
  by_cases c : 0 < trE I J a b k
  · rw [if_pos c]
    unfold lwU
    by_cases q : l = -1 ∨ -(rsE I J V a b l) * trE I J a b k < -(rsE I J V a b k) * trE I J a b l
    · rw [if_pos q]
      refine ⟨Or.inr c, fun t t0 t1 ht => ⟨by omega, ?_⟩⟩
      by_cases e : t = k
      · rw [e]; exact Int.le_refl _
      · obtain ⟨p1, p2⟩ := h2 t t0 (by omega) ht
        rcases q with q | q
        · exact absurd q p1
        · have hl : 0 < trE I J a b l := by rcases h1 with k1 | k1; exact absurd k1 p1; exact k1
          exact fr_tr ht hl c p2 (Int.le_of_lt q)
    · rw [if_neg q]
      refine ⟨h1, fun t t0 t1 ht => ?_⟩
      by_cases e : t = k
      · rw [e]; exact ⟨by omega, by omega⟩
      · exact h2 t t0 (by omega) ht
  · rw [if_neg c]
    refine ⟨h1, fun t t0 t1 ht => ?_⟩
    by_cases e : t = k
    · rw [e] at ht; exact absurd ht c
    · exact h2 t t0 (by omega) ht
theorem liG_s {g k : Int} (h : liG I J V a b g k) (hk : 0 ≤ k) : liG I J V a b (stG I J V a b g k) (k + 1) := by
  obtain ⟨h1, h2⟩ := h
  unfold stG
  by_cases c : trE I J a b k < 0
  · rw [if_pos c]
    unfold hgU
    by_cases q : g = -1 ∨ rsE I J V a b k * -(trE I J a b g) < rsE I J V a b g * -(trE I J a b k)
    · rw [if_pos q]
      refine ⟨Or.inr c, fun t t0 t1 ht => ⟨by omega, ?_⟩⟩
      by_cases e : t = k
      · rw [e]; exact Int.le_refl _
      · obtain ⟨p1, p2⟩ := h2 t t0 (by omega) ht
        rcases q with q | q
        · exact absurd q p1
        · have hl : trE I J a b g < 0 := by rcases h1 with k1 | k1; exact absurd k1 p1; exact k1
          exact fr_tr (b := -(trE I J a b k)) (d := -(trE I J a b g)) (f := -(trE I J a b t)) (by omega) (by omega) (by omega) (Int.le_of_lt q) p2
    · rw [if_neg q]
      refine ⟨h1, fun t t0 t1 ht => ?_⟩
      by_cases e : t = k
      · rw [e]; exact ⟨by omega, by omega⟩
      · exact h2 t t0 (by omega) ht
  · rw [if_neg c]
    refine ⟨h1, fun t t0 t1 ht => ?_⟩
    by_cases e : t = k
    · rw [e] at ht; exact absurd ht c
    · exact h2 t t0 (by omega) ht
theorem stW_max : ∀ (m : Nat) (k l g : Int), 0 ≤ k → k + m = n → liL I J V a b l k → liG I J V a b g k → (∀ t, 0 ≤ t → t < k → ¬ bdE I J V a b t) → ¬ emE I J V a b l g → ∀ l' g', stW I J V a b m k l g = some (l', g') → liL I J V a b l' n ∧ liG I J V a b g' n ∧ (∀ t, 0 ≤ t → t < n → ¬ bdE I J V a b t) ∧ ¬ emE I J V a b l' g'
  | 0, k, l, g, _, hn, h1, h2, h3, h4, l', g', e => by
    cases e
    have e : k = n := by omega
    rw [← e]; exact ⟨h1, h2, h3, h4⟩
  | m + 1, k, l, g, hk, hn, h1, h2, h3, h4, l', g', e => by
    unfold stW at e
    by_cases c1 : bdE I J V a b k
    · rw [if_pos c1] at e; cases e
    · rw [if_neg c1] at e
      by_cases c2 : emE I J V a b (stL I J V a b l k) (stG I J V a b g k)
      · rw [if_pos c2] at e; cases e
      · rw [if_neg c2] at e
        refine stW_max m (k + 1) _ _ (by omega) (by omega) (liL_s h1 hk) (liG_s h2 hk) (fun t t0 t1 => ?_) c2 l' g' e
        by_cases e : t = k
        · rw [e]; exact c1
        · exact h3 t t0 (by omega)
theorem stF_max {l g : Int} (hn : 0 ≤ n) (h : stF n I J V a b = some (l, g)) : liL I J V a b l n ∧ liG I J V a b g n ∧ (∀ t, 0 ≤ t → t < n → ¬ bdE I J V a b t) ∧ ¬ emE I J V a b l g :=
  stW_max n.toNat 0 (-1) (-1) (Int.le_refl _) (by omega) ⟨Or.inl rfl, fun t t0 t1 => by omega⟩ ⟨Or.inl rfl, fun t t0 t1 => by omega⟩ (fun t t0 t1 => by omega) (fun q => q.1 rfl) l g h
theorem stW_some (hb : ∀ t, 0 ≤ t → t < n → ¬ bdE I J V a b t) (hp : ∀ k j, 0 ≤ k → k < n → 0 ≤ j → j < n → 0 < trE I J a b k → trE I J a b j < 0 → -(rsE I J V a b k) * -(trE I J a b j) < rsE I J V a b j * trE I J a b k) : ∀ (m : Nat) (k l g : Int), 0 ≤ k → k + m = n → (l = -1 ∨ (0 ≤ l ∧ l < n ∧ 0 < trE I J a b l)) → (g = -1 ∨ (0 ≤ g ∧ g < n ∧ trE I J a b g < 0)) → ∃ l' g', stW I J V a b m k l g = some (l', g')
  | 0, k, l, g, _, _, _, _ => ⟨l, g, rfl⟩
  | m + 1, k, l, g, hk, hn, h1, h2 => by
    unfold stW
    rw [if_neg (hb k hk (by omega))]
    have h1' : stL I J V a b l k = -1 ∨ (0 ≤ stL I J V a b l k ∧ stL I J V a b l k < n ∧ 0 < trE I J a b (stL I J V a b l k)) := by
      unfold stL lwU
      split
      · split
        · exact Or.inr ⟨hk, by omega, by assumption⟩
        · exact h1
      · exact h1
    have h2' : stG I J V a b g k = -1 ∨ (0 ≤ stG I J V a b g k ∧ stG I J V a b g k < n ∧ trE I J a b (stG I J V a b g k) < 0) := by
      unfold stG hgU
      split
      · split
        · exact Or.inr ⟨hk, by omega, by assumption⟩
        · exact h2
      · exact h2
    rw [if_neg (fun q => ?_)]
    · exact stW_some hb hp m (k + 1) _ _ (by omega) (by omega) h1' h2'
    · obtain ⟨q1, q2, q3⟩ := q
      rcases h1' with k1 | ⟨a1, a2, a3⟩
      · exact absurd k1 q1
      · rcases h2' with k1 | ⟨b1, b2, b3⟩
        · exact absurd k1 q2
        · have := hp _ _ a1 a2 b1 b2 a3 b3
          omega
theorem stF_some (hn : 0 ≤ n) (hb : ∀ t, 0 ≤ t → t < n → ¬ bdE I J V a b t) (hp : ∀ k j, 0 ≤ k → k < n → 0 ≤ j → j < n → 0 < trE I J a b k → trE I J a b j < 0 → -(rsE I J V a b k) * -(trE I J a b j) < rsE I J V a b j * trE I J a b k) : ∃ l g, stF n I J V a b = some (l, g) :=
  stW_some hb hp n.toNat 0 (-1) (-1) (Int.le_refl _) (by omega) (Or.inl rfl) (Or.inl rfl)
/-- how far a term is above the term a at the corner of a, b, l -/
def fC (I J V : Int → Int) (a b l m : Int) : Int := (I m - I a) * cnX I J V a b l + (J m - J a) * cnY I J V a b l + (V m - V a) * trE I J a b l
theorem fC_eq (l m : Int) : ((I b - I a) * (I b - I a) + (J b - J a) * (J b - J a)) * fC I J V a b l m = trE I J a b l * rsE I J V a b m - rsE I J V a b l * trE I J a b m := by
  unfold fC cnX cnY trE rsE; grind
theorem fC_ab (l : Int) : fC I J V a b l a = 0 ∧ fC I J V a b l b = 0 ∧ fC I J V a b l l = 0 := by
  refine ⟨?_, ?_, ?_⟩ <;> (unfold fC cnX cnY trE; grind)
end ST
