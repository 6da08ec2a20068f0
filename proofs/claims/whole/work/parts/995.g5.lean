/-! GEOMETRY: how many corners and edges there are -/
theorem argmax (f : Int → Int) : ∀ (m : Nat), 0 < m → ∃ h : Int, 0 ≤ h ∧ h < m ∧ ∀ k : Int, 0 ≤ k → k < m → f k ≤ f h
  | 0, h => absurd h (by decide)
  | m + 1, _ => by
    rcases Nat.eq_zero_or_pos m with e | e
    · exact ⟨0, Int.le_refl _, by omega, fun k k0 k1 => by rw [show k = 0 by omega]; exact Int.le_refl _⟩
    · obtain ⟨h, h0, h1, h2⟩ := argmax f m e
      by_cases c : f h ≤ f m
      · refine ⟨m, by omega, by omega, fun k k0 k1 => ?_⟩
        by_cases q : k = m
        · rw [q]; exact Int.le_refl _
        · have := h2 k k0 (by omega); omega
      · refine ⟨h, h0, by omega, fun k k0 k1 => ?_⟩
        by_cases q : k = m
        · rw [q]; omega
        · exact h2 k k0 (by omega)
section CT
variable {n : Int} {I J V : Int → Int}
abbrev bef (e f : EE) : Prop := e.1 < f.1 ∨ (e.1 = f.1 ∧ e.2.1 < f.2.1)
theorem edJ_pw {a : Int} : ∀ (m : Nat) (b : Int) (L : List EE), L.Pairwise bef → (∀ e ∈ L, e.1 < a ∨ (e.1 = a ∧ e.2.1 < b)) → (edJ n I J V a m b L).Pairwise bef ∧ ∀ e ∈ edJ n I J V a m b L, e.1 < a ∨ (e.1 = a ∧ e.2.1 < b + m)
  | 0, b, L, h1, h2 => ⟨h1, fun e he => by have h3 : e.1 < a ∨ (e.1 = a ∧ e.2.1 < b) := h2 e he; show e.1 < a ∨ (e.1 = a ∧ e.2.1 < b + ((0 : Nat) : Int)); omega⟩
  | m + 1, b, L, h1, h2 => by
    have st : (edE n I J V L a b).Pairwise bef ∧ ∀ e ∈ edE n I J V L a b, e.1 < a ∨ (e.1 = a ∧ e.2.1 < b + 1) := by
      unfold edE
      split
      · exact ⟨h1, fun e he => by have := h2 e he; omega⟩
      · rename_i l g hs
        refine ⟨List.pairwise_append.mpr ⟨h1, List.pairwise_singleton _ _, fun x hx y hy => ?_⟩, fun e he => ?_⟩
        · rw [List.mem_singleton.mp hy]; exact h2 x hx
        · rcases List.mem_append.mp he with q | q
          · have := h2 e q; omega
          · rw [List.mem_singleton.mp q]; exact Or.inr ⟨rfl, by show b < b + 1; omega⟩
    have h := edJ_pw (a := a) m (b + 1) _ st.1 st.2
    refine ⟨h.1, fun e he => ?_⟩
    have := h.2 e he
    omega
theorem edI_pw : ∀ (m : Nat) (a : Int) (L : List EE), L.Pairwise bef → (∀ e ∈ L, e.1 < a) → (edI n I J V m a L).Pairwise bef
  | 0, _, _, h1, _ => h1
  | m + 1, a, L, h1, h2 => by
    obtain ⟨p1, p2⟩ := edJ_pw (n := n) (I := I) (J := J) (V := V) (a := a) (n - (a + 1)).toNat (a + 1) L h1 (fun e he => Or.inl (h2 e he))
    exact edI_pw m (a + 1) _ p1 (fun e he => by have := p2 e he; omega)
theorem edL_pw : (edL n I J V).Pairwise bef := edI_pw _ _ _ List.Pairwise.nil (fun e he => absurd he (List.not_mem_nil))
theorem ed_inj {k k' : Nat} {e e' : EE} (h : (edL n I J V)[k]? = some e) (h' : (edL n I J V)[k']? = some e') (h1 : e.1 = e'.1) (h2 : e.2.1 = e'.2.1) : k = k' := by
  obtain ⟨q, q2⟩ := List.getElem?_eq_some_iff.mp h
  obtain ⟨q', q2'⟩ := List.getElem?_eq_some_iff.mp h'
  have hp := List.pairwise_iff_getElem.mp (edL_pw (n := n) (I := I) (J := J) (V := V))
  rcases Nat.lt_trichotomy k k' with c | c | c
  · have := hp k k' q q' c
    rw [q2, q2'] at this; unfold bef at this; omega
  · exact c
  · have := hp k' k q' q c
    rw [q2, q2'] at this; unfold bef at this; omega
theorem srt_inj {s : KS} (h : srtK s) {i j : Int} (i0 : 0 ≤ i) (i1 : i < s.1) (j0 : 0 ≤ j) (j1 : j < s.1) (e1 : s.2.1 i = s.2.1 j) (e2 : s.2.2.1 i = s.2.2.1 j) (e3 : s.2.2.2.1 i = s.2.2.2.1 j) (e4 : s.2.2.2.2.1 i = s.2.2.2.2.1 j) : i = j := by
  have self : ∀ a b c d : Int, cmpP a b c d a b c d = 0 := fun a b c d => by unfold cmpP; rw [if_pos (by omega)]; omega
  rcases (show i < j ∨ i = j ∨ j < i by omega) with c | c | c
  · have := h.2.2 i j i0 c j1
    rw [e1, e2, e3, e4, self] at this; omega
  · exact c
  · have := h.2.2 j i j0 c i1
    rw [e1, e2, e3, e4, self] at this; omega
theorem mid_in {sd x xd y yd t : Int} (h : midP n I J V sd x xd y yd t) : 0 < t ∧ t < n - 1 := by
  obtain ⟨s, r, h1, h2, h3, h4, h5, -⟩ := h
  have := h3.1.1
  have := h5.1.2
  omega
/-- of three terms that are least at a corner the one between is low or high there -/
theorem end_mid {a b l : Int} (hR : FR n I J V) (h : isEnd I J V n a b l) : ∃ t, midP n I J V 1 (cpX I J V a b l) (cpXD I J V a b l) (cpY I J V a b l) (cpYD I J V a b l) t ∨ midP n I J V (-1) (cpX I J V a b l) (cpXD I J V a b l) (cpY I J V a b l) (cpYD I J V a b l) t := by
  obtain ⟨ma, mb, ml⟩ := end_abl hR h
  obtain ⟨a0, ab, bn, l0, l1, ht, -⟩ := h
  have pick : ∀ s t r : Int, s < t → t < r → MinC n I J V a b l s → MinC n I J V a b l t → MinC n I J V a b l r → cr (I t - I s) (J t - J s) (I r - I t) (J r - J t) ≠ 0 → ∃ t, midP n I J V 1 (cpX I J V a b l) (cpXD I J V a b l) (cpY I J V a b l) (cpYD I J V a b l) t ∨ midP n I J V (-1) (cpX I J V a b l) (cpXD I J V a b l) (cpY I J V a b l) (cpYD I J V a b l) t := by
    intro s t r h1 h2 h3 h4 h5 h6
    rcases (show 0 < cr (I t - I s) (J t - J s) (I r - I t) (J r - J t) ∨ cr (I t - I s) (J t - J s) (I r - I t) (J r - J t) < 0 by omega) with c | c
    · exact ⟨t, Or.inl ⟨s, r, h1, h2, h3, h4, h5, by rw [Int.one_mul]; exact c⟩⟩
    · exact ⟨t, Or.inr ⟨s, r, h1, h2, h3, h4, h5, by rw [Int.neg_mul, Int.one_mul]; omega⟩⟩
  have hla : l ≠ a := fun e => ht (by rw [e]; unfold trE; grind)
  have hlb : l ≠ b := fun e => ht (by rw [e]; unfold trE; grind)
  rcases (show l < a ∨ (a < l ∧ l < b) ∨ b < l by omega) with c | c | c
  · exact pick l a b c ab ml ma mb (fun e => ht (by rw [← e]; unfold trE cr; grind))
  · exact pick a l b c.1 c.2 ma ml mb (fun e => ht (by have : trE I J a b l = -cr (I l - I a) (J l - J a) (I b - I l) (J b - J l) := by unfold trE cr; grind
                                                       rw [this, e]; rfl))
  · exact pick a b l ab c ma mb ml (fun e => ht (by rw [← e]; unfold trE cr; grind))
/-- the term farthest on one side is never low, or never high -/
theorem far_no {sd x xd y yd h : Int} (hR : FR n I J V) (hS : FS n I J) (hn : 2 ≤ n) (hsd : sd = 1 ∨ sd = -1) (hmax : ∀ k, 0 ≤ k → k < n → sd * cr (I (n - 1) - I 0) (J (n - 1) - J 0) (I k - I 0) (J k - J 0) ≤ sd * cr (I (n - 1) - I 0) (J (n - 1) - J 0) (I h - I 0) (J h - J 0)) (hm : midP n I J V sd x xd y yd h) : False := by
  obtain ⟨s, r, h1, h2, h3, h4, h5, h6⟩ := hm
  have pZ := ph_lex hR hS (Int.le_refl 0) (show 0 < n - 1 by omega) (by omega)
  have pA := ph_lex hR hS h3.1.1 h1 h4.1.2
  have pB := ph_lex hR hS h4.1.1 h2 h5.1.2
  have m1 := hmax s h3.1.1 h3.1.2
  have m2 := hmax r h5.1.1 h5.1.2
  have e1 : cr (I (n - 1) - I 0) (J (n - 1) - J 0) (I h - I s) (J h - J s) = cr (I (n - 1) - I 0) (J (n - 1) - J 0) (I h - I 0) (J h - J 0) - cr (I (n - 1) - I 0) (J (n - 1) - J 0) (I s - I 0) (J s - J 0) := by unfold cr; grind
  have e2 : cr (I r - I h) (J r - J h) (I (n - 1) - I 0) (J (n - 1) - J 0) = cr (I (n - 1) - I 0) (J (n - 1) - J 0) (I h - I 0) (J h - J 0) - cr (I (n - 1) - I 0) (J (n - 1) - J 0) (I r - I 0) (J r - J 0) := by unfold cr; grind
  have id3 := ph3 (I (n - 1) - I 0) (J (n - 1) - J 0) (I h - I s) (J h - J s) (I r - I h) (J r - J h)
  generalize cr (I (n - 1) - I 0) (J (n - 1) - J 0) (I h - I 0) (J h - J 0) = ch at m1 m2 e1 e2
  generalize cr (I (n - 1) - I 0) (J (n - 1) - J 0) (I s - I 0) (J s - J 0) = cs at m1 e1
  generalize cr (I (n - 1) - I 0) (J (n - 1) - J 0) (I r - I 0) (J r - J 0) = crr at m2 e2
  generalize cr (I h - I s) (J h - J s) (I r - I h) (J r - J h) = c3 at h6 id3
  rw [e1, e2] at id3
  rcases hsd with e | e
  · rw [e] at m1 m2 h6
    have g1 := Int.mul_pos pZ (show 0 < c3 by omega)
    have g2 := Int.mul_nonneg (Int.le_of_lt pA) (show 0 ≤ ch - crr by omega)
    have g3 := Int.mul_nonneg (Int.le_of_lt pB) (show 0 ≤ ch - cs by omega)
    omega
  · rw [e] at m1 m2 h6
    have g1 := Int.mul_pos pZ (show 0 < -c3 by omega)
    have g2 := Int.mul_nonneg (Int.le_of_lt pA) (show 0 ≤ -(ch - crr) by omega)
    have g3 := Int.mul_nonneg (Int.le_of_lt pB) (show 0 ≤ -(ch - cs) by omega)
    rw [Int.mul_neg] at g1 g2 g3
    omega
theorem corners_le (hR : FR n I J V) (hS : FS n I J) (hpos : 0 < (crL n I J V).1) : 3 ≤ n ∧ (crL n I J V).1 + 5 ≤ 2 * n := by
  have hn := hR.1
  obtain ⟨hs, hsrc, -⟩ := crL_good (I := I) (J := J) (V := V) hn
  have hok := edL_ok (I := I) (J := J) (V := V) hn
  have src : ∀ k, 0 ≤ k → k < (crL n I J V).1 → ∃ a b l, isEnd I J V n a b l ∧ (crL n I J V).2.1 k = cpX I J V a b l ∧ (crL n I J V).2.2.1 k = cpXD I J V a b l ∧ (crL n I J V).2.2.2.1 k = cpY I J V a b l ∧ (crL n I J V).2.2.2.2.1 k = cpYD I J V a b l := by
    intro k k0 k1
    obtain ⟨e, he, l, hl, hl1, r1, r2, r3, r4⟩ := hsrc k k0 k1
    obtain ⟨o1, o2, o3, o4⟩ := hok e he
    rcases hl with q | q
    · rw [q] at hl1 r1 r2 r3 r4; exact ⟨_, _, _, (end_low hS o1 o2 o3 o4 hl1).1, r1, r2, r3, r4⟩
    · rw [q] at hl1 r1 r2 r3 r4; exact ⟨_, _, _, (end_high hS o1 o2 o3 o4 hl1).1, r1, r2, r3, r4⟩
  obtain ⟨a, b, l, hE, -⟩ := src 0 (Int.le_refl _) hpos
  obtain ⟨t0, ht0⟩ := end_mid hR hE
  have tr : 0 < t0 ∧ t0 < n - 1 := by rcases ht0 with q | q <;> exact mid_in q
  have n3 : 3 ≤ n := by omega
  refine ⟨n3, ?_⟩
  obtain ⟨h5, sd5, sd5i, h5r, h5n⟩ : ∃ h sd : Int, (sd = 1 ∨ sd = -1) ∧ (0 < h ∧ h < n - 1) ∧ ∀ x xd y yd, ¬ midP n I J V sd x xd y yd h := by
    have zself : cr (I (n - 1) - I 0) (J (n - 1) - J 0) (I 0 - I 0) (J 0 - J 0) = 0 := by unfold cr; grind
    have zself2 : cr (I (n - 1) - I 0) (J (n - 1) - J 0) (I (n - 1) - I 0) (J (n - 1) - J 0) = 0 := by unfold cr; grind
    have try1 : ∀ sd : Int, (sd = 1 ∨ sd = -1) → ∀ k, 0 ≤ k → k < n → 0 < sd * cr (I (n - 1) - I 0) (J (n - 1) - J 0) (I k - I 0) (J k - J 0) → ∃ h sd : Int, (sd = 1 ∨ sd = -1) ∧ (0 < h ∧ h < n - 1) ∧ ∀ x xd y yd, ¬ midP n I J V sd x xd y yd h := by
      intro sd hsd k k0 k1 hk
      obtain ⟨h, h0, h1, h2⟩ := argmax (fun k => sd * cr (I (n - 1) - I 0) (J (n - 1) - J 0) (I k - I 0) (J k - J 0)) n.toNat (by omega)
      have h2' : ∀ k, 0 ≤ k → k < n → sd * cr (I (n - 1) - I 0) (J (n - 1) - J 0) (I k - I 0) (J k - J 0) ≤ sd * cr (I (n - 1) - I 0) (J (n - 1) - J 0) (I h - I 0) (J h - J 0) := fun k k0 k1 => h2 k k0 (by omega)
      have hpos := h2' k k0 k1
      have hh0 : h ≠ 0 := fun e => by rw [e, zself, Int.mul_zero] at hpos; omega
      have hh1 : h ≠ n - 1 := fun e => by rw [e, zself2, Int.mul_zero] at hpos; omega
      exact ⟨h, sd, hsd, ⟨by omega, by omega⟩, fun x xd y yd hm => far_no hR hS (by omega) hsd h2' hm⟩
    obtain ⟨a0, ab, bn, l0, l1, htt, -⟩ := hE
    by_cases c : ∃ k, 0 ≤ k ∧ k < n ∧ cr (I (n - 1) - I 0) (J (n - 1) - J 0) (I k - I 0) (J k - J 0) ≠ 0
    · obtain ⟨k, k0, k1, k2⟩ := c
      rcases (show 0 < cr (I (n - 1) - I 0) (J (n - 1) - J 0) (I k - I 0) (J k - J 0) ∨ cr (I (n - 1) - I 0) (J (n - 1) - J 0) (I k - I 0) (J k - J 0) < 0 by omega) with q | q
      · exact try1 1 (Or.inl rfl) k k0 k1 (by omega)
      · exact try1 (-1) (Or.inr rfl) k k0 k1 (by omega)
    · exfalso
      have cz : ∀ k, 0 ≤ k → k < n → cr (I (n - 1) - I 0) (J (n - 1) - J 0) (I k - I 0) (J k - J 0) = 0 := fun k k0 k1 => by
        rcases Classical.em (cr (I (n - 1) - I 0) (J (n - 1) - J 0) (I k - I 0) (J k - J 0) = 0) with q | q
        · exact q
        · exact absurd ⟨k, k0, k1, q⟩ c
      have pZ := ph_lex hR hS (Int.le_refl 0) (show 0 < n - 1 by omega) (by omega)
      have id3 := ph3 (I (n - 1) - I 0) (J (n - 1) - J 0) (I b - I a) (J b - J a) (I l - I a) (J l - J a)
      have e1 : cr (I (n - 1) - I 0) (J (n - 1) - J 0) (I b - I a) (J b - J a) = 0 := by
        have x1 := cz a a0 (by omega)
        have x2 := cz b (by omega) bn
        have : cr (I (n - 1) - I 0) (J (n - 1) - J 0) (I b - I a) (J b - J a) = cr (I (n - 1) - I 0) (J (n - 1) - J 0) (I b - I 0) (J b - J 0) - cr (I (n - 1) - I 0) (J (n - 1) - J 0) (I a - I 0) (J a - J 0) := by unfold cr; grind
        omega
      have e2 : cr (I l - I a) (J l - J a) (I (n - 1) - I 0) (J (n - 1) - J 0) = 0 := by
        have x1 := cz a a0 (by omega)
        have x2 := cz l l0 l1
        have : cr (I l - I a) (J l - J a) (I (n - 1) - I 0) (J (n - 1) - J 0) = cr (I (n - 1) - I 0) (J (n - 1) - J 0) (I a - I 0) (J a - J 0) - cr (I (n - 1) - I 0) (J (n - 1) - J 0) (I l - I 0) (J l - J 0) := by unfold cr; grind
        omega
      rw [e1, e2, Int.mul_zero, Int.mul_zero, Int.add_zero, Int.add_zero] at id3
      have e3 : cr (I b - I a) (J b - J a) (I l - I a) (J l - J a) = trE I J a b l := by unfold cr trE; grind
      rw [e3] at id3
      rcases Int.mul_eq_zero.mp id3 with q | q
      · omega
      · exact htt q
  obtain ⟨N, hN⟩ : ∃ N : Nat, (N : Int) = n := ⟨n.toNat, by omega⟩
  obtain ⟨C, hC⟩ : ∃ C : Nat, (C : Int) = (crL n I J V).1 := ⟨(crL n I J V).1.toNat, by omega⟩
  obtain ⟨H, hH⟩ : ∃ H : Nat, (H : Int) = h5 := ⟨h5.toNat, by omega⟩
  let ex : Nat → Nat := fun j => if j = 0 then 0 else if j = 1 then N - 1 else if j = 2 then N else if j = 3 then 2 * N - 1 else if sd5 = 1 then H else N + H
  let mk : Nat → Int → Nat → Prop := fun k sd c => midP n I J V sd ((crL n I J V).2.1 k) ((crL n I J V).2.2.1 k) ((crL n I J V).2.2.2.1 k) ((crL n I J V).2.2.2.2.1 k) c
  let R : Nat → Nat → Prop := fun k c => (k < C ∧ ((c < N ∧ mk k 1 c) ∨ (N ≤ c ∧ c < 2 * N ∧ mk k (-1) (c - N)))) ∨ (C ≤ k ∧ k < C + 5 ∧ c = ex (k - C))
  have exno : ∀ k j c, k < C → j < 5 → ((c < N ∧ mk k 1 c) ∨ (N ≤ c ∧ c < 2 * N ∧ mk k (-1) (c - N))) → c ≠ ex j := by
    intro k j c hk hj h e
    have m1 : ∀ sd c, mk k sd c → 0 < (c : Int) ∧ (c : Int) < n - 1 := fun sd c q => mid_in q
    have m5 : ∀ c, mk k sd5 c → (c : Int) ≠ h5 := fun c q e => h5n _ _ _ _ (by rw [← e]; exact q)
    have hh : c = 0 ∨ c = N - 1 ∨ c = N ∨ c = 2 * N - 1 ∨ (sd5 = 1 ∧ c = H) ∨ (sd5 ≠ 1 ∧ c = N + H) := by
      have e' : c = (if j = 0 then 0 else if j = 1 then N - 1 else if j = 2 then N else if j = 3 then 2 * N - 1 else if sd5 = 1 then H else N + H) := e
      by_cases j0 : j = 0
      · rw [if_pos j0] at e'; exact Or.inl e'
      · rw [if_neg j0] at e'
        by_cases j1 : j = 1
        · rw [if_pos j1] at e'; exact Or.inr (Or.inl e')
        · rw [if_neg j1] at e'
          by_cases j2 : j = 2
          · rw [if_pos j2] at e'; exact Or.inr (Or.inr (Or.inl e'))
          · rw [if_neg j2] at e'
            by_cases j3 : j = 3
            · rw [if_pos j3] at e'; exact Or.inr (Or.inr (Or.inr (Or.inl e')))
            · rw [if_neg j3] at e'
              by_cases js : sd5 = 1
              · rw [if_pos js] at e'; exact Or.inr (Or.inr (Or.inr (Or.inr (Or.inl ⟨js, e'⟩))))
              · rw [if_neg js] at e'; exact Or.inr (Or.inr (Or.inr (Or.inr (Or.inr ⟨js, e'⟩))))
    rcases h with ⟨q1, q2⟩ | ⟨q1, q2, q3⟩
    · have b1 := m1 1 c q2
      rcases hh with e | e | e | e | ⟨e1, e2⟩ | ⟨e1, e2⟩
      · omega
      · omega
      · omega
      · omega
      · have := m5 c (by rw [e1]; exact q2); omega
      · omega
    · have b1 := m1 (-1) (c - N) q3
      rcases hh with e | e | e | e | ⟨e1, e2⟩ | ⟨e1, e2⟩
      · omega
      · omega
      · omega
      · omega
      · omega
      · have e3 : sd5 = -1 := by rcases sd5i with k | k; exact absurd k e1; exact k
        have := m5 (c - N) (by rw [e3]; exact q3); omega
  have hred : ∀ k : Nat, k < C → redP ((crL n I J V).2.1 k) ((crL n I J V).2.2.1 k) ((crL n I J V).2.2.2.1 k) ((crL n I J V).2.2.2.2.1 k) := fun k hk => hs.2.1 k (by omega) (by omega)
  have same : ∀ k k' sd c, k < C → k' < C → (sd = 1 ∨ sd = -1) → mk k sd c → mk k' sd c → k = k' := by
    intro k k' sd c hk hk' hsd q q'
    obtain ⟨e1, e2⟩ := mid_uni hR hS hsd (hred k hk).1 (hred k' hk').1 q q'
    obtain ⟨p1, p2, p3, p4⟩ := red_eq (hred k hk) (hred k' hk') e1 e2
    have := srt_inj hs (i := (k : Int)) (j := (k' : Int)) (by omega) (by omega) (by omega) (by omega) p1 p2 p3 p4
    omega
  have exinj : ∀ i j, i < 5 → j < 5 → ex i = ex j → i = j := by
    intro i j hi hj e
    have hHr : 0 < H ∧ H + 1 < N := by omega
    have e' : (if i = 0 then 0 else if i = 1 then N - 1 else if i = 2 then N else if i = 3 then 2 * N - 1 else if sd5 = 1 then H else N + H) = (if j = 0 then 0 else if j = 1 then N - 1 else if j = 2 then N else if j = 3 then 2 * N - 1 else if sd5 = 1 then H else N + H) := e
    rcases (show i = 0 ∨ i = 1 ∨ i = 2 ∨ i = 3 ∨ i = 4 by omega) with a | a | a | a | a <;> rcases (show j = 0 ∨ j = 1 ∨ j = 2 ∨ j = 3 ∨ j = 4 by omega) with b | b | b | b | b <;> subst a <;> subst b <;> simp at e' <;> (try split at e') <;> omega
  have exlt : ∀ j, j < 5 → ex j < 2 * N := by
    intro j hj
    show (if j = 0 then 0 else if j = 1 then N - 1 else if j = 2 then N else if j = 3 then 2 * N - 1 else if sd5 = 1 then H else N + H) < 2 * N
    repeat' split
    all_goals omega
  have key := php (2 * N) (C + 5) R (fun k hk => by
    by_cases c : k < C
    · obtain ⟨a, b, l, hE, r1, r2, r3, r4⟩ := src k (by omega) (by omega)
      obtain ⟨t, ht⟩ := end_mid hR hE
      rw [← r1, ← r2, ← r3, ← r4] at ht
      rcases ht with q | q
      · have := mid_in q
        refine ⟨t.toNat, by omega, Or.inl ⟨c, Or.inl ⟨by omega, ?_⟩⟩⟩
        show midP n I J V 1 _ _ _ _ ((t.toNat : Nat) : Int)
        rw [show ((t.toNat : Nat) : Int) = t by omega]; exact q
      · have := mid_in q
        refine ⟨N + t.toNat, by omega, Or.inl ⟨c, Or.inr ⟨by omega, by omega, ?_⟩⟩⟩
        show midP n I J V (-1) _ _ _ _ ((N + t.toNat - N : Nat) : Int)
        rw [show ((N + t.toNat - N : Nat) : Int) = t by omega]; exact q
    · exact ⟨ex (k - C), exlt _ (by omega), Or.inr ⟨by omega, hk, rfl⟩⟩) (fun k k' c hk hk' r r' => by
    rcases r with ⟨r1, r2⟩ | ⟨r1, r2, r3⟩
    · rcases r' with ⟨s1, s2⟩ | ⟨s1, s2, s3⟩
      · rcases r2 with ⟨x1, x2⟩ | ⟨x1, x2, x3⟩
        · rcases s2 with ⟨y1, y2⟩ | ⟨y1, y2, y3⟩
          · exact same k k' 1 c r1 s1 (Or.inl rfl) x2 y2
          · omega
        · rcases s2 with ⟨y1, y2⟩ | ⟨y1, y2, y3⟩
          · omega
          · exact same k k' (-1) (c - N) r1 s1 (Or.inr rfl) x3 y3
      · exact absurd s3 (exno k _ c r1 (by omega) r2)
    · rcases r' with ⟨s1, s2⟩ | ⟨s1, s2, s3⟩
      · exact absurd r3 (exno k' _ c s1 (by omega) s2)
      · have := exinj _ _ (by omega) (by omega) (r3.symm.trans s3)
        omega)
  omega
end CT
