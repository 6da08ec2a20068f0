/-! GEOMETRY: what goes up over a level at a corner goes down again; the ends that are missing -/
section CI2
variable {n : Int} {I J V : Int → Int}
theorem col3 {a b p q r : Int} (nn : 0 < (I b - I a) * (I b - I a) + (J b - J a) * (J b - J a)) (h1 : trE I J a b p = 0) (h2 : trE I J a b q = 0) (h3 : trE I J a b r = 0) : trE I J p q r = 0 := by
  have e : ((I b - I a) * (I b - I a) + (J b - J a) * (J b - J a)) * trE I J p q r = ((I b - I a) * (I q - I p) + (J b - J a) * (J q - J p)) * (trE I J a b r - trE I J a b p) - (trE I J a b q - trE I J a b p) * ((I b - I a) * (I r - I p) + (J b - J a) * (J r - J p)) := by unfold trE; grind
  rw [h1, h2, h3, Int.sub_self, Int.mul_zero, Int.zero_mul, Int.sub_self] at e
  rcases Int.mul_eq_zero.mp e with k | k
  · omega
  · exact k
/-- a side at a corner is an edge that ends there -/
theorem side_to {k u v : Int} (hR : FR n I J V) (hS : FS n I J) (hk : 0 ≤ k ∧ k < (crL n I J V).1) (hs : side I J (MK n I J V k) u v) (h3 : ∃ p q r, MK n I J V k p ∧ MK n I J V k q ∧ MK n I J V k r ∧ trE I J p q r ≠ 0) : ∃ e ∈ edL n I J V, (u < v ∧ e.1 = u ∧ e.2.1 = v ∧ atK I J V (crL n I J V) k e e.2.2.1) ∨ (v < u ∧ e.1 = v ∧ e.2.1 = u ∧ atK I J V (crL n I J V) k e e.2.2.2) := by
  have hr := (crL_good (I := I) (J := J) (V := V) hR.1).1.2.1 k hk.1 hk.2
  obtain ⟨ne, mu, mv, hm⟩ := hs
  have hD := Int.mul_pos hr.1.1 hr.1.2
  have ex : ∀ {a b : Int}, (0 ≤ a ∧ a < n) → (0 ≤ b ∧ b < n) → a ≠ b → ∃ m, MK n I J V k m ∧ trE I J a b m ≠ 0 := by
    intro a b ha hb hab
    obtain ⟨p, q, r, hp, hq, hrr, ht⟩ := h3
    have nn := pl_ne hR hS hb ha (fun e => hab e.symm)
    by_cases c1 : trE I J a b p = 0
    · by_cases c2 : trE I J a b q = 0
      · by_cases c3 : trE I J a b r = 0
        · exact absurd (col3 nn c1 c2 c3) ht
        · exact ⟨r, hrr, c3⟩
      · exact ⟨q, hq, c2⟩
    · exact ⟨p, hp, c1⟩
  rcases (show u < v ∨ v < u by omega) with c | c
  · obtain ⟨l, g, hst, h1, -⟩ := side_edge hR hS (Or.inl rfl) c hD mu mv (fun m mm => by
      obtain ⟨t1, t2⟩ := hm m mm
      refine ⟨by omega, fun z => ?_⟩
      have := t2 z; omega) (ex mu.1 mv.1 ne)
    obtain ⟨l0, lt, lm⟩ := h1 rfl
    refine ⟨(u, v, l, g), edI_mem c mv.1.2 hst _ _ _ mu.1.1 (by have := mu.1.2; omega), Or.inl ⟨c, rfl, rfl, l0, ?_⟩⟩
    exact cp_same (show trE I J u v l ≠ 0 by omega) hr (min_eq mv mu) (min_eq lm mu)
  · obtain ⟨l, g, hst, -, h1⟩ := side_edge hR hS (Or.inr rfl) c hD mv mu (fun m mm => by
      obtain ⟨t1, t2⟩ := hm m mm
      have := tr_sw (I := I) (J := J) v u m
      refine ⟨by omega, fun z => ?_⟩
      have := t2 (by omega); omega) (ex mv.1 mu.1 (fun e => ne e.symm))
    obtain ⟨l0, lt, lm⟩ := h1 rfl
    refine ⟨(v, u, l, g), edI_mem c mu.1.2 hst _ _ _ mv.1.1 (by have := mv.1.2; omega), Or.inr ⟨c, rfl, rfl, l0, ?_⟩⟩
    exact cp_same (show trE I J v u g ≠ 0 by omega) hr (min_eq mu mv) (min_eq lm mv)
theorem at_3 {k : Int} {e : EE} (hR : FR n I J V) (hS : FS n I J) (he : edOK n I J V e) (h : atK I J V (crL n I J V) k e e.2.2.1 ∨ atK I J V (crL n I J V) k e e.2.2.2) : ∃ p q r, MK n I J V k p ∧ MK n I J V k q ∧ MK n I J V k r ∧ trE I J p q r ≠ 0 := by
  obtain ⟨e0, e1, e2, e3⟩ := he
  rcases h with ⟨q0, q1, q2, q3, q4⟩ | ⟨q0, q1, q2, q3, q4⟩
  · obtain ⟨h1, h2⟩ := end_low hS e0 e1 e2 e3 q0
    obtain ⟨m1, m2, m3⟩ := end_abl hR h1
    refine ⟨e.1, e.2.1, e.2.2.1, ?_, ?_, ?_, by omega⟩ <;> (unfold MK; rw [q1, q2, q3, q4]; assumption)
  · obtain ⟨h1, h2⟩ := end_high hS e0 e1 e2 e3 q0
    obtain ⟨m1, m2, m3⟩ := end_abl hR h1
    refine ⟨e.1, e.2.1, e.2.2.2, ?_, ?_, ?_, by omega⟩ <;> (unfold MK; rw [q1, q2, q3, q4]; assumption)
theorem up_ex {L : Int → Int} {α β x k : Int} {e : EE} (hL : ∀ t, 2 * L t = α * I t + β * J t) (hab : 0 < α * α + β * β) (hR : FR n I J V) (hS : FS n I J) (hk : 0 ≤ k ∧ k < (crL n I J V).1) (he : edOK n I J V e) : (upE I J V (crL n I J V) L x k e → ∃ e' ∈ edL n I J V, dnE I J V (crL n I J V) L x k e') ∧ (dnE I J V (crL n I J V) L x k e → ∃ e' ∈ edL n I J V, upE I J V (crL n I J V) L x k e') := by
  have s := at_side (k := k) hR hS he
  have up : ∀ u : Int, (xi I J α β (2 * x + 1) u < 0 ↔ L u ≤ x) ∧ (0 < xi I J α β (2 * x + 1) u ↔ x < L u) ∧ (xi I J (-α) (-β) (-(2 * x + 1)) u < 0 ↔ x < L u) ∧ (0 < xi I J (-α) (-β) (-(2 * x + 1)) u ↔ L u ≤ x) := fun u => by
    have := hL u; unfold xi; rw [Int.neg_mul, Int.neg_mul]; omega
  have rng : ∀ m, MK n I J V k m → 0 ≤ m ∧ m < n := fun m h => h.1
  have hab' : 0 < (-α) * (-α) + (-β) * (-β) := by rw [Int.neg_mul_neg, Int.neg_mul_neg]; exact hab
  have goD : ∀ p q, MK n I J V k p → MK n I J V k q → L p ≤ x → x < L q → (∃ p q r, MK n I J V k p ∧ MK n I J V k q ∧ MK n I J V k r ∧ trE I J p q r ≠ 0) → ∃ e' ∈ edL n I J V, dnE I J V (crL n I J V) L x k e' := by
    intro p q hp hq h1 h2 h3
    obtain ⟨u, v, sd, x1, x2⟩ := side_ex (α := -α) (β := -β) (γ := -(2 * x + 1)) (k0 := q) (k1 := p) hR hS rng hab' (fun m hm => by have := up m; omega) hq hp ((up q).2.2.1.mpr h2) ((up p).2.2.2.mpr h1)
    have x1 := (up u).2.2.1.mp x1
    have x2 := (up v).2.2.2.mp x2
    obtain ⟨e', he', c⟩ := side_to hR hS hk sd h3
    refine ⟨e', he', ?_⟩
    unfold dnE
    rw [lvC_1.1, lvC_1.2]
    rcases c with ⟨-, c1, c2, c3⟩ | ⟨-, c1, c2, c3⟩
    · left; rw [c1, c2]; exact ⟨c3, by omega, by omega⟩
    · right; rw [c1, c2]; exact ⟨c3, by omega, by omega⟩
  have goU : ∀ p q, MK n I J V k p → MK n I J V k q → L p ≤ x → x < L q → (∃ p q r, MK n I J V k p ∧ MK n I J V k q ∧ MK n I J V k r ∧ trE I J p q r ≠ 0) → ∃ e' ∈ edL n I J V, upE I J V (crL n I J V) L x k e' := by
    intro p q hp hq h1 h2 h3
    obtain ⟨u, v, sd, x1, x2⟩ := side_ex (α := α) (β := β) (γ := 2 * x + 1) (k0 := p) (k1 := q) hR hS rng hab (fun m hm => by have := up m; omega) hp hq ((up p).1.mpr h1) ((up q).2.1.mpr h2)
    have x1 := (up u).1.mp x1
    have x2 := (up v).2.1.mp x2
    obtain ⟨e', he', c⟩ := side_to hR hS hk sd h3
    refine ⟨e', he', ?_⟩
    unfold upE
    rw [lvC_1.1, lvC_1.2]
    rcases c with ⟨-, c1, c2, c3⟩ | ⟨-, c1, c2, c3⟩
    · left; rw [c1, c2]; exact ⟨c3, by omega, by omega⟩
    · right; rw [c1, c2]; exact ⟨c3, by omega, by omega⟩
  constructor
  · intro h
    unfold upE at h
    rw [lvC_1.1, lvC_1.2] at h
    rcases h with ⟨c, c1, c2⟩ | ⟨c, c1, c2⟩
    · exact goD _ _ (s.1 c).2.1 (s.1 c).2.2.1 c1 c2 (at_3 hR hS he (Or.inl c))
    · exact goD _ _ (s.2 c).2.1 (s.2 c).2.2.1 c1 c2 (at_3 hR hS he (Or.inr c))
  · intro h
    unfold dnE at h
    rw [lvC_1.1, lvC_1.2] at h
    rcases h with ⟨c, c1, c2⟩ | ⟨c, c1, c2⟩
    · exact goU _ _ (s.1 c).2.2.1 (s.1 c).2.1 c1 c2 (at_3 hR hS he (Or.inl c))
    · exact goU _ _ (s.2 c).2.2.1 (s.2 c).2.1 c1 c2 (at_3 hR hS he (Or.inr c))
/-- the ends that are missing -/
def wsd (n : Int) (I J : Int → Int) (u v : Int) : Prop := ∀ m, 0 ≤ m → m < n → 0 ≤ trE I J u v m
theorem inf_side {e : EE} (hR : FR n I J V) (he : edOK n I J V e) : (e.2.2.1 = -1 → wsd n I J e.2.1 e.1) ∧ (e.2.2.2 = -1 → wsd n I J e.1 e.2.1) := by
  obtain ⟨e0, e1, e2, e3⟩ := he
  obtain ⟨⟨a1, a2⟩, ⟨b1, b2⟩, -, -⟩ := stF_max hR.1 e3
  refine ⟨fun q m m0 m1 => ?_, fun q m m0 m1 => ?_⟩
  · rw [tr_sw]
    rcases (show 0 < trE I J e.1 e.2.1 m ∨ 0 ≤ -trE I J e.1 e.2.1 m by omega) with c | c
    · exact absurd q (a2 m m0 m1 c).1
    · exact c
  · rcases (show trE I J e.1 e.2.1 m < 0 ∨ 0 ≤ trE I J e.1 e.2.1 m by omega) with c | c
    · exact absurd q (b2 m m0 m1 c).1
    · exact c
/-- two stretches on one line over one level are one -/
theorem line_uni {e e' : EE} (hR : FR n I J V) (hS : FS n I J) (he : edOK n I J V e) (he' : edOK n I J V e') (z1 : trE I J e.1 e.2.1 e'.1 = 0) (z2 : trE I J e.1 e.2.1 e'.2.1 = 0) (z3 : trE I J e'.1 e'.2.1 e.1 = 0) (z4 : trE I J e'.1 e'.2.1 e.2.1 = 0) (o1 : ph (I e.1) (J e.1) < ph (I e'.2.1) (J e'.2.1)) (o2 : ph (I e'.1) (J e'.1) < ph (I e.2.1) (J e.2.1)) : e.1 = e'.1 ∧ e.2.1 = e'.2.1 := by
  have gen : ∀ {f : EE} (k : Int), edOK n I J V f → 0 ≤ k → k < n → trE I J f.1 f.2.1 k = 0 → 0 ≤ trE (fun t => ph (I t) (J t)) V f.1 f.2.1 k ∧ (trE (fun t => ph (I t) (J t)) V f.1 f.2.1 k = 0 → (f.1 ≤ k ∧ k ≤ f.2.1) ∨ (f.2.1 ≤ k ∧ k ≤ f.1)) := by
    intro f k hf k0 k1 hz
    obtain ⟨f0, f1, f2, f3⟩ := hf
    have nn := pq_pos (hS f.1 f.2.1 f0 f1 f2)
    have pp := ph_lex hR hS f0 f1 f2
    obtain ⟨-, -, hbd, -⟩ := stF_max hR.1 f3
    have nb := hbd k k0 k1
    have r0 : 0 ≤ rsE I J V f.1 f.2.1 k := by
      rcases (show 0 ≤ rsE I J V f.1 f.2.1 k ∨ rsE I J V f.1 f.2.1 k < 0 by omega) with s | s
      · exact s
      · exact absurd ⟨hz, Or.inl s⟩ nb
    have dd := dot_id (I f.2.1 - I f.1) (J f.2.1 - J f.1) (I k - I f.1) (J k - J f.1) hz
    have e : ph (I f.2.1 - I f.1) (J f.2.1 - J f.1) * rsE I J V f.1 f.2.1 k = ((I f.2.1 - I f.1) * (I f.2.1 - I f.1) + (J f.2.1 - J f.1) * (J f.2.1 - J f.1)) * trE (fun t => ph (I t) (J t)) V f.1 f.2.1 k := by
      have e1 : ph (I f.2.1 - I f.1) (J f.2.1 - J f.1) * rsE I J V f.1 f.2.1 k = (V f.1 - V f.2.1) * (ph (I f.2.1 - I f.1) (J f.2.1 - J f.1) * ((I f.2.1 - I f.1) * (I k - I f.1) + (J f.2.1 - J f.1) * (J k - J f.1))) + ph (I f.2.1 - I f.1) (J f.2.1 - J f.1) * (V k - V f.1) * ((I f.2.1 - I f.1) * (I f.2.1 - I f.1) + (J f.2.1 - J f.1) * (J f.2.1 - J f.1)) := by unfold rsE; grind
      rw [e1, dd]; unfold trE ph; grind
    have g1 := Int.mul_nonneg (Int.le_of_lt pp) r0
    rw [e] at g1
    refine ⟨Int.nonneg_of_mul_nonneg_right g1 nn, fun z => ?_⟩
    rw [z, Int.mul_zero] at e
    have rz : rsE I J V f.1 f.2.1 k = 0 := by rcases Int.mul_eq_zero.mp e with s | s; omega; exact s
    by_cases s : f.1 ≤ k ∧ k ≤ f.2.1
    · exact Or.inl s
    · exact absurd ⟨hz, Or.inr ⟨rz, by omega⟩⟩ nb
  have tz : ∀ a b : Int, trE I J a b a = 0 ∧ trE I J a b b = 0 := fun a b => by constructor <;> (unfold trE; grind)
  have h1 := he.2.1
  have h2 := he.2.2.1
  have h1' := he'.2.1
  have h2' := he'.2.2.1
  have p1 := ph_lex hR hS he.1 h1 h2
  have p2 := ph_lex hR hS he'.1 h1' h2'
  have sd1 : side (fun t => ph (I t) (J t)) V (fun m => m = e.1 ∨ m = e.2.1 ∨ m = e'.1 ∨ m = e'.2.1) e.1 e.2.1 := ⟨by omega, Or.inl rfl, Or.inr (Or.inl rfl), fun m hm => by
    rcases hm with q | q | q | q
    · rw [q]; exact gen _ he he.1 (by omega) (tz _ _).1
    · rw [q]; exact gen _ he (by have := he.1; omega) h2 (tz _ _).2
    · rw [q]; exact gen _ he he'.1 (by omega) z1
    · rw [q]; exact gen _ he (by have := he'.1; omega) h2' z2⟩
  have sd2 : side (fun t => ph (I t) (J t)) V (fun m => m = e.1 ∨ m = e.2.1 ∨ m = e'.1 ∨ m = e'.2.1) e'.1 e'.2.1 := ⟨by omega, Or.inr (Or.inr (Or.inl rfl)), Or.inr (Or.inr (Or.inr rfl)), fun m hm => by
    rcases hm with q | q | q | q
    · rw [q]; exact gen _ he' he.1 (by omega) z3
    · rw [q]; exact gen _ he' (by have := he.1; omega) h2 z4
    · rw [q]; exact gen _ he' he'.1 (by omega) (tz _ _).1
    · rw [q]; exact gen _ he' (by have := he'.1; omega) h2' (tz _ _).2⟩
  have p1' : ph (I e.1) (J e.1) < ph (I e.2.1) (J e.2.1) := by unfold ph at p1 ⊢; omega
  have p2' : ph (I e'.1) (J e'.1) < ph (I e'.2.1) (J e'.2.1) := by unfold ph at p2 ⊢; omega
  refine side_uni (α := 2) (β := 0) (γ := 2 * max (ph (I e.1) (J e.1)) (ph (I e'.1) (J e'.1)) + 1) sd1 sd2 ?_ ?_ ?_ ?_ <;> (unfold xi; rw [Int.zero_mul, Int.add_zero]; dsimp only; omega)
/-- one missing end over a level at most -/
theorem inf_uni {e e' : EE} {u v u' v' α β γ : Int} (hR : FR n I J V) (hS : FS n I J) (he : edOK n I J V e) (he' : edOK n I J V e') (hu : (u = e.1 ∧ v = e.2.1) ∨ (u = e.2.1 ∧ v = e.1)) (hu' : (u' = e'.1 ∧ v' = e'.2.1) ∨ (u' = e'.2.1 ∧ v' = e'.1)) (h : wsd n I J u v) (h' : wsd n I J u' v') (x1 : xi I J α β γ u < 0) (x2 : 0 < xi I J α β γ v) (x3 : xi I J α β γ u' < 0) (x4 : 0 < xi I J α β γ v') : e.1 = e'.1 ∧ e.2.1 = e'.2.1 := by
  have r1 := he.1
  have r2 := he.2.1
  have r3 := he.2.2.1
  have r1' := he'.1
  have r2' := he'.2.1
  have r3' := he'.2.2.1
  have t1 := h u' (by omega) (by omega)
  have t2 := h v' (by omega) (by omega)
  have t3 := h' u (by omega) (by omega)
  have t4 := h' v (by omega) (by omega)
  have id : (xi I J α β γ v' * trE I J u v u' + -(xi I J α β γ u') * trE I J u v v') + (xi I J α β γ v * trE I J u' v' u + -(xi I J α β γ u) * trE I J u' v' v) = 0 := by unfold xi trE; grind
  have g1 := Int.mul_nonneg (Int.le_of_lt x4) t1
  have g2 := Int.mul_nonneg (show 0 ≤ -(xi I J α β γ u') by omega) t2
  have g3 := Int.mul_nonneg (Int.le_of_lt x2) t3
  have g4 := Int.mul_nonneg (show 0 ≤ -(xi I J α β γ u) by omega) t4
  have z1 : trE I J u v u' = 0 := by rcases Int.mul_eq_zero.mp (show xi I J α β γ v' * trE I J u v u' = 0 by omega) with q | q; omega; exact q
  have z2 : trE I J u v v' = 0 := by rcases Int.mul_eq_zero.mp (show -(xi I J α β γ u') * trE I J u v v' = 0 by omega) with q | q; omega; exact q
  have z3 : trE I J u' v' u = 0 := by rcases Int.mul_eq_zero.mp (show xi I J α β γ v * trE I J u' v' u = 0 by omega) with q | q; omega; exact q
  have z4 : trE I J u' v' v = 0 := by rcases Int.mul_eq_zero.mp (show -(xi I J α β γ u) * trE I J u' v' v = 0 by omega) with q | q; omega; exact q
  have phid : ∀ p q : Int, trE I J u v p = 0 → trE I J u v q = 0 → (xi I J α β γ v - xi I J α β γ u) * (ph (I q) (J q) - ph (I p) (J p)) = (xi I J α β γ q - xi I J α β γ p) * ph (I v - I u) (J v - J u) := by
    intro p q hp hq
    have e : (xi I J α β γ v - xi I J α β γ u) * (ph (I q) (J q) - ph (I p) (J p)) - (xi I J α β γ q - xi I J α β γ p) * ph (I v - I u) (J v - J u) = (α - 9 * β) * (trE I J u v q - trE I J u v p) := by unfold xi ph trE; grind
    rw [hp, hq, Int.sub_self, Int.mul_zero] at e; omega
  have tz : ∀ a b : Int, trE I J a b a = 0 ∧ trE I J a b b = 0 := fun a b => by constructor <;> (unfold trE; grind)
  have q1 := phid u' v z1 (tz u v).2
  have q2 := phid u v' (tz u v).1 z2
  have q3 := phid u' v' z1 z2
  generalize hX : xi I J α β γ v - xi I J α β γ u = X at *
  have Xp : 0 < X := by omega
  have sw := fun a b m => tr_sw (I := I) (J := J) a b m
  have w1 := sw u v u'
  have w2 := sw u v v'
  have w3 := sw u' v' u
  have w4 := sw u' v' v
  have pos : ∀ d c : Int, 0 < c → X * d = c * ph (I v - I u) (J v - J u) → (0 < ph (I v - I u) (J v - J u) → 0 < d) ∧ (ph (I v - I u) (J v - J u) < 0 → d < 0) := by
    intro d c hc hd
    refine ⟨fun k => pos_l (by rw [hd]; exact Int.mul_pos hc k) Xp, fun k => ?_⟩
    have : 0 < -d := pos_l (a := X) (by rw [Int.mul_neg, hd, ← Int.mul_neg]; exact Int.mul_pos hc (by omega)) Xp
    omega
  have k1 := pos _ _ (show 0 < xi I J α β γ v - xi I J α β γ u' by omega) q1
  have k2 := pos _ _ (show 0 < xi I J α β γ v' - xi I J α β γ u by omega) q2
  have k3 := pos _ _ (show 0 < xi I J α β γ v' - xi I J α β γ u' by omega) q3
  have pe := ph_lex hR hS r1 r2 r3
  have pe' := ph_lex hR hS r1' r2' r3'
  have ph2 : ∀ a b c d : Int, ph (a - c) (b - d) = ph a b - ph c d := fun a b c d => by unfold ph; omega
  rw [ph2] at pe pe' k1 k2 k3
  rcases hu with ⟨rfl, rfl⟩ | ⟨rfl, rfl⟩ <;> rcases hu' with ⟨rfl, rfl⟩ | ⟨rfl, rfl⟩
  · exact line_uni hR hS he he' z1 z2 z3 z4 (by omega) (by omega)
  · exfalso; omega
  · exfalso; omega
  · exact line_uni hR hS he he' (by omega) (by omega) (by omega) (by omega) (by omega) (by omega)
end CI2
