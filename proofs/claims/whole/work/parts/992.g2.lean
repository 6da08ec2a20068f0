/-! GEOMETRY: what is least at a point; the ends of an edge -/
/-- at a point, times its two lower numbers -/
abbrev wP (I J V : Int → Int) (x xd y yd m : Int) : Int := wv (I m) (J m) (V m) x xd y yd
def MinP (n : Int) (I J V : Int → Int) (x xd y yd m : Int) : Prop := (0 ≤ m ∧ m < n) ∧ ∀ k, 0 ≤ k → k < n → wP I J V x xd y yd m ≤ wP I J V x xd y yd k
theorem rd_eq {x b : Int} (hb : b ≠ 0) : rdA x b * b = x * rdB x b := by
  have hg := gc_pos x b
  obtain ⟨d1, d2⟩ := gc_dvd (a := x) hb
  have hs : sg b = 1 ∨ sg b = -1 := by unfold sg; split; exact Or.inr rfl; exact Or.inl rfl
  have hd : ∀ s : Int, (s = 1 ∨ s = -1) → s * gc x b ∣ x ∧ s * gc x b ∣ b := by
    intro s h
    rcases h with h | h
    · rw [h, Int.one_mul]; exact ⟨d1, d2⟩
    · rw [h, Int.neg_mul, Int.one_mul]; exact ⟨Int.neg_dvd.mpr d1, Int.neg_dvd.mpr d2⟩
  obtain ⟨e1, e2⟩ := hd _ hs
  unfold rdA rdB
  have h1 := Int.mul_tdiv_cancel' e1
  have h2 := Int.mul_tdiv_cancel' e2
  generalize x.tdiv (sg b * gc x b) = X at h1 ⊢
  generalize b.tdiv (sg b * gc x b) = B at h2 ⊢
  generalize sg b * gc x b = G at h1 h2
  rw [← h1, ← h2]; grind
section PT
variable {n : Int} {I J V : Int → Int}
theorem wP_f {a b l m : Int} (ht : trE I J a b l ≠ 0) : trE I J a b l * (wP I J V (cpX I J V a b l) (cpXD I J V a b l) (cpY I J V a b l) (cpYD I J V a b l) m - wP I J V (cpX I J V a b l) (cpXD I J V a b l) (cpY I J V a b l) (cpYD I J V a b l) a) = cpXD I J V a b l * cpYD I J V a b l * fC I J V a b l m := by
  have h1 := rd_eq (x := cnX I J V a b l) ht
  have h2 := rd_eq (x := cnY I J V a b l) ht
  unfold wP wv fC cpX cpXD cpY cpYD
  generalize rdA (cnX I J V a b l) (trE I J a b l) = x at h1 ⊢
  generalize rdB (cnX I J V a b l) (trE I J a b l) = xd at h1 ⊢
  generalize rdA (cnY I J V a b l) (trE I J a b l) = y at h2 ⊢
  generalize rdB (cnY I J V a b l) (trE I J a b l) = yd at h2 ⊢
  generalize cnX I J V a b l = X at h1 ⊢
  generalize cnY I J V a b l = Y at h2 ⊢
  generalize trE I J a b l = D at h1 h2 ⊢
  grind
theorem pq_pos {a b : Int} (h : lexlt (I a) (J a) (I b) (J b)) : 0 < (I b - I a) * (I b - I a) + (J b - J a) * (J b - J a) := by
  unfold lexlt at h
  have h1 := sq_nn (I b - I a)
  have h2 := sq_nn (J b - J a)
  by_cases c : I b - I a = 0
  · have h3 := sq_pp (x := J b - J a) (by omega)
    omega
  · have h3 := sq_pp c
    omega
/-- below: where the stretch begins -/
theorem low_nn {a b l g : Int} (hn : 0 ≤ n) (hlx : lexlt (I a) (J a) (I b) (J b)) (h : stF n I J V a b = some (l, g)) (hl : l ≠ -1) {m : Int} (m0 : 0 ≤ m) (m1 : m < n) : 0 ≤ fC I J V a b l m ∧ (fC I J V a b l m = 0 → 0 ≤ trE I J a b m ∧ (trE I J a b m = 0 → a ≤ m ∧ m ≤ b)) := by
  obtain ⟨⟨a1, a2⟩, ⟨b1, b2⟩, hb, he⟩ := stF_max hn h
  have tl : 0 < trE I J a b l := by rcases a1 with k | k; exact absurd k hl; exact k
  have hp := pq_pos hlx
  have hf := fC_eq (I := I) (J := J) (V := V) (a := a) (b := b) l m
  have nb := hb m m0 m1
  have key : (0 ≤ trE I J a b l * rsE I J V a b m - rsE I J V a b l * trE I J a b m) ∧ (trE I J a b l * rsE I J V a b m - rsE I J V a b l * trE I J a b m = 0 → 0 ≤ trE I J a b m ∧ (trE I J a b m = 0 → a ≤ m ∧ m ≤ b)) := by
    rcases (show 0 < trE I J a b m ∨ trE I J a b m = 0 ∨ trE I J a b m < 0 by omega) with c | c | c
    · have h1 := (a2 m m0 m1 c).2
      have e1 : -(rsE I J V a b m) * trE I J a b l = -(trE I J a b l * rsE I J V a b m) := by grind
      have e2 : -(rsE I J V a b l) * trE I J a b m = -(rsE I J V a b l * trE I J a b m) := by grind
      exact ⟨by omega, fun _ => ⟨by omega, fun q => by omega⟩⟩
    · rw [c, Int.mul_zero, Int.sub_zero]
      have r0 : 0 ≤ rsE I J V a b m := by
        rcases (show 0 ≤ rsE I J V a b m ∨ rsE I J V a b m < 0 by omega) with k | k
        · exact k
        · exact absurd ⟨c, Or.inl k⟩ nb
      refine ⟨Int.mul_nonneg (Int.le_of_lt tl) r0, fun q => ⟨Int.le_refl _, fun _ => ?_⟩⟩
      have rz : rsE I J V a b m = 0 := by
        rcases Int.mul_eq_zero.mp q with k | k
        · omega
        · exact k
      by_cases k : a ≤ m ∧ m ≤ b
      · exact k
      · exact absurd ⟨c, Or.inr ⟨rz, by omega⟩⟩ nb
    · obtain ⟨g1, g2⟩ := b2 m m0 m1 c
      have tg : trE I J a b g < 0 := by rcases b1 with k | k; exact absurd k g1; exact k
      have h3 : -(rsE I J V a b l) * -(trE I J a b g) < rsE I J V a b g * trE I J a b l := by
        rcases (show -(rsE I J V a b l) * -(trE I J a b g) < rsE I J V a b g * trE I J a b l ∨ rsE I J V a b g * trE I J a b l ≤ -(rsE I J V a b l) * -(trE I J a b g) by omega) with k | k
        · exact k
        · exact absurd ⟨hl, g1, k⟩ he
      have h4 := fr_lt2 (b := trE I J a b l) (d := -(trE I J a b g)) (f := -(trE I J a b m)) tl (by omega) (by omega) h3 g2
      have e1 : -(rsE I J V a b l) * -(trE I J a b m) = rsE I J V a b l * trE I J a b m := by grind
      have e2 : rsE I J V a b m * trE I J a b l = trE I J a b l * rsE I J V a b m := by grind
      exact ⟨by omega, fun q => by omega⟩
  rw [← hf] at key
  refine ⟨Int.nonneg_of_mul_nonneg_right key.1 hp, fun q => key.2 (by rw [q, Int.mul_zero])⟩
/-- above: where it ends -/
theorem high_nn {a b l g : Int} (hn : 0 ≤ n) (hlx : lexlt (I a) (J a) (I b) (J b)) (h : stF n I J V a b = some (l, g)) (hg : g ≠ -1) {m : Int} (m0 : 0 ≤ m) (m1 : m < n) : fC I J V a b g m ≤ 0 ∧ (fC I J V a b g m = 0 → trE I J a b m ≤ 0 ∧ (trE I J a b m = 0 → a ≤ m ∧ m ≤ b)) := by
  obtain ⟨⟨a1, a2⟩, ⟨b1, b2⟩, hb, he⟩ := stF_max hn h
  have tg : trE I J a b g < 0 := by rcases b1 with k | k; exact absurd k hg; exact k
  have hp := pq_pos hlx
  have hf := fC_eq (I := I) (J := J) (V := V) (a := a) (b := b) g m
  have nb := hb m m0 m1
  have key : (trE I J a b g * rsE I J V a b m - rsE I J V a b g * trE I J a b m ≤ 0) ∧ (trE I J a b g * rsE I J V a b m - rsE I J V a b g * trE I J a b m = 0 → trE I J a b m ≤ 0 ∧ (trE I J a b m = 0 → a ≤ m ∧ m ≤ b)) := by
    rcases (show trE I J a b m < 0 ∨ trE I J a b m = 0 ∨ 0 < trE I J a b m by omega) with c | c | c
    · have h1 := (b2 m m0 m1 c).2
      have e1 : rsE I J V a b g * -(trE I J a b m) = -(rsE I J V a b g * trE I J a b m) := by grind
      have e2 : rsE I J V a b m * -(trE I J a b g) = -(trE I J a b g * rsE I J V a b m) := by grind
      exact ⟨by omega, fun _ => ⟨by omega, fun q => by omega⟩⟩
    · rw [c, Int.mul_zero, Int.sub_zero]
      have r0 : 0 ≤ rsE I J V a b m := by
        rcases (show 0 ≤ rsE I J V a b m ∨ rsE I J V a b m < 0 by omega) with k | k
        · exact k
        · exact absurd ⟨c, Or.inl k⟩ nb
      refine ⟨Int.mul_nonpos_of_nonpos_of_nonneg (Int.le_of_lt tg) r0, fun q => ⟨Int.le_refl _, fun _ => ?_⟩⟩
      have rz : rsE I J V a b m = 0 := by
        rcases Int.mul_eq_zero.mp q with k | k
        · omega
        · exact k
      by_cases k : a ≤ m ∧ m ≤ b
      · exact k
      · exact absurd ⟨c, Or.inr ⟨rz, by omega⟩⟩ nb
    · obtain ⟨g1, g2⟩ := a2 m m0 m1 c
      have tl : 0 < trE I J a b l := by rcases a1 with k | k; exact absurd k g1; exact k
      have h3 : -(rsE I J V a b l) * -(trE I J a b g) < rsE I J V a b g * trE I J a b l := by
        rcases (show -(rsE I J V a b l) * -(trE I J a b g) < rsE I J V a b g * trE I J a b l ∨ rsE I J V a b g * trE I J a b l ≤ -(rsE I J V a b l) * -(trE I J a b g) by omega) with k | k
        · exact k
        · exact absurd ⟨g1, hg, k⟩ he
      have h4 := fr_lt (a := -(rsE I J V a b m)) (b := trE I J a b m) (c := -(rsE I J V a b l)) (d := trE I J a b l) (e := rsE I J V a b g) (f := -(trE I J a b g)) c tl (by omega) g2 h3
      have e1 : -(rsE I J V a b m) * -(trE I J a b g) = trE I J a b g * rsE I J V a b m := by grind
      exact ⟨by omega, fun q => by omega⟩
  rw [← hf] at key
  refine ⟨?_, fun q => key.2 (by rw [q, Int.mul_zero])⟩
  rcases (show fC I J V a b g m ≤ 0 ∨ 0 < fC I J V a b g m by omega) with k | k
  · exact k
  · have := Int.mul_pos hp k
    omega
end PT
