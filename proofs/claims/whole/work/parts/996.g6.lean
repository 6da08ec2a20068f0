/-! GEOMETRY: how many edges there are -/
section CT
variable {n : Int} {I J V : Int → Int}
theorem tr_swap (a b c : Int) : trE I J c b a = -trE I J a b c := by unfold trE; grind
theorem low_same {a a' b l l' : Int} (hR : FR n I J V) (h : isEnd I J V n a b l) (t : 0 < trE I J a b l) (h' : isEnd I J V n a' b l') (t' : 0 < trE I J a' b l') (m : MinC n I J V a b l a') (m' : MinC n I J V a' b l' a) : a = a' := by
  have f1 := (end_min hR h m.1).mp m
  have f2 := (end_min hR h' m'.1).mp m'
  obtain ⟨-, -, -, -, -, -, -, h8⟩ := h
  obtain ⟨-, -, -, -, -, -, -, h8'⟩ := h'
  obtain ⟨p1, p2⟩ := h8 a' m.1.1 m.1.2 f1
  obtain ⟨q1, q2⟩ := h8' a m'.1.1 m'.1.2 f2
  have s1 := Int.nonneg_of_mul_nonneg_right p1 t
  have s2 := Int.nonneg_of_mul_nonneg_right q1 t'
  have e := tr_swap (I := I) (J := J) a b a'
  have := p2 (by omega)
  have := q2 (by omega)
  omega
theorem low_great {a b l m : Int} (hR : FR n I J V) (h : isEnd I J V n a b l) (t : 0 < trE I J a b l) (hno : ¬ midP n I J V 1 (cpX I J V a b l) (cpXD I J V a b l) (cpY I J V a b l) (cpYD I J V a b l) b) (hm : MinC n I J V a b l m) : m ≤ b := by
  rcases (show m ≤ b ∨ b < m by omega) with c | c
  · exact c
  · exfalso
    have f1 := (end_min hR h hm.1).mp hm
    obtain ⟨ma, mb, -⟩ := end_abl hR h
    obtain ⟨-, ab, -, -, -, -, -, h8⟩ := h
    obtain ⟨p1, p2⟩ := h8 m hm.1.1 hm.1.2 f1
    have s1 := Int.nonneg_of_mul_nonneg_right p1 t
    have s2 : trE I J a b m ≠ 0 := fun e => by have := p2 e; omega
    refine hno ⟨a, m, ab, c, ma, mb, hm, ?_⟩
    have e : cr (I b - I a) (J b - J a) (I m - I b) (J m - J b) = trE I J a b m := by unfold cr trE; grind
    rw [Int.one_mul, e]; omega
/-- no corner where the stretch begins: no term is on that side -/
theorem no_side {a b g : Int} (hn : 0 ≤ n) (h : stF n I J V a b = some (-1, g)) {m : Int} (m0 : 0 ≤ m) (m1 : m < n) : trE I J a b m ≤ 0 ∧ ¬ bdE I J V a b m := by
  obtain ⟨⟨-, a2⟩, -, hb, -⟩ := stF_max hn h
  refine ⟨?_, hb m m0 m1⟩
  rcases (show trE I J a b m ≤ 0 ∨ 0 < trE I J a b m by omega) with c | c
  · exact c
  · exact absurd rfl (a2 m m0 m1 c).1
theorem no_mid {a b g x xd y yd : Int} (hR : FR n I J V) (hS : FS n I J) (h0 : 0 ≤ a) (hab : a < b) (hb : b < n) (h : stF n I J V a b = some (-1, g)) : ¬ midP n I J V 1 x xd y yd b := by
  rintro ⟨s, r, h1, h2, h3, h4, h5, h6⟩
  have pA := ph_lex hR hS h0 hab hb
  have pS := ph_lex hR hS h3.1.1 h1 hb
  have pB := ph_lex hR hS (show 0 ≤ b by omega) h2 h5.1.2
  have t1 := (no_side hR.1 h h3.1.1 h3.1.2).1
  have t2 := (no_side hR.1 h h5.1.1 h5.1.2).1
  have e1 : trE I J a b s = -cr (I b - I a) (J b - J a) (I b - I s) (J b - J s) := by unfold cr trE; grind
  have e2 : cr (I r - I b) (J r - J b) (I b - I a) (J b - J a) = -trE I J a b r := by unfold cr trE; grind
  have id3 := ph3 (I b - I a) (J b - J a) (I b - I s) (J b - J s) (I r - I b) (J r - J b)
  rw [e2] at id3
  rw [Int.one_mul] at h6
  have g1 := Int.mul_pos pA h6
  have g2 := Int.mul_nonneg (Int.le_of_lt pS) (show 0 ≤ -trE I J a b r by omega)
  have g3 := Int.mul_nonneg (Int.le_of_lt pB) (show 0 ≤ cr (I b - I a) (J b - J a) (I b - I s) (J b - J s) by omega)
  omega
theorem no_same {a a' b g g' : Int} (hR : FR n I J V) (hS : FS n I J) (h0 : 0 ≤ a) (hab : a < b) (hb : b < n) (h0' : 0 ≤ a') (hab' : a' < b) (h : stF n I J V a b = some (-1, g)) (h' : stF n I J V a' b = some (-1, g')) : a = a' := by
  obtain ⟨t1, n1⟩ := no_side hR.1 h h0' (show a' < n by omega)
  obtain ⟨t2, n2⟩ := no_side hR.1 h' h0 (show a < n by omega)
  have e := tr_swap (I := I) (J := J) a b a'
  have z1 : trE I J a b a' = 0 := by omega
  have z2 : trE I J a' b a = 0 := by omega
  have pA := ph_lex hR hS h0 hab hb
  have pA' := ph_lex hR hS h0' hab' hb
  have r1 : 0 ≤ rsE I J V a b a' := by
    rcases (show 0 ≤ rsE I J V a b a' ∨ rsE I J V a b a' < 0 by omega) with k | k
    · exact k
    · exact absurd ⟨z1, Or.inl k⟩ n1
  have r2 : 0 ≤ rsE I J V a' b a := by
    rcases (show 0 ≤ rsE I J V a' b a ∨ rsE I J V a' b a < 0 by omega) with k | k
    · exact k
    · exact absurd ⟨z2, Or.inl k⟩ n2
  have k1 : rsE I J V a b a' = 0 → a ≤ a' := fun q => by
    rcases (show a ≤ a' ∨ a' < a by omega) with k | k
    · exact k
    · exact absurd ⟨z1, Or.inr ⟨q, Or.inl k⟩⟩ n1
  have k2 : rsE I J V a' b a = 0 → a' ≤ a := fun q => by
    rcases (show a' ≤ a ∨ a < a' by omega) with k | k
    · exact k
    · exact absurd ⟨z2, Or.inr ⟨q, Or.inl k⟩⟩ n2
  obtain ⟨x, hx⟩ : ∃ x, x = (I b - I a) * (I b - I a) + (J b - J a) * (J b - J a) := ⟨_, rfl⟩
  obtain ⟨y, hy⟩ : ∃ y, y = (I b - I a) * (I b - I a') + (J b - J a) * (J b - J a') := ⟨_, rfl⟩
  obtain ⟨z, hz⟩ : ∃ z, z = (I b - I a') * (I b - I a') + (J b - J a') * (J b - J a') := ⟨_, rfl⟩
  have hc : cr (I b - I a) (J b - J a) (I b - I a') (J b - J a') = 0 := by
    have : cr (I b - I a) (J b - J a) (I b - I a') (J b - J a') = -trE I J a b a' := by unfold cr trE; grind
    omega
  have lg : y * y + cr (I b - I a) (J b - J a) (I b - I a') (J b - J a') * cr (I b - I a) (J b - J a) (I b - I a') (J b - J a') = x * z := by rw [hx, hy, hz]; unfold cr; grind
  rw [hc, Int.mul_zero, Int.add_zero] at lg
  have e1 : rsE I J V a b a' = -(V a * y) - V b * (x - y) + V a' * x := by rw [hx, hy]; unfold rsE; grind
  have e2 : rsE I J V a' b a = -(V a' * y) - V b * (z - y) + V a * z := by rw [hy, hz]; unfold rsE; grind
  have sum : y * rsE I J V a b a' + x * rsE I J V a' b a = V b * (y * y - x * z) - V a * (y * y - x * z) := by rw [e1, e2]; grind
  rw [lg, Int.sub_self, Int.mul_zero, Int.mul_zero, Int.sub_zero] at sum
  have xp : 0 < x := by
    have h1 := sq_nn (I b - I a)
    have h2 := sq_nn (J b - J a)
    by_cases c : I b - I a = 0
    · have h3 := sq_pp (x := J b - J a) (fun q => by rw [c, q] at pA; unfold ph at pA; omega)
      omega
    · have h3 := sq_pp c
      omega
  have yp : 0 < y := by
    have e3 : ph (I b - I a') (J b - J a') * x = ph (I b - I a) (J b - J a) * y - cr (I b - I a) (J b - J a) (I b - I a') (J b - J a') * ((J b - J a) * 9 - (I b - I a)) := by rw [hx, hy]; unfold ph cr; grind
    rw [hc, Int.zero_mul, Int.sub_zero] at e3
    have g1 := Int.mul_pos pA' xp
    rw [e3] at g1
    rcases (show 0 < y ∨ y ≤ 0 by omega) with k | k
    · exact k
    · have := Int.mul_nonneg (Int.le_of_lt pA) (show 0 ≤ -y by omega)
      rw [Int.mul_neg] at this
      omega
  have g1 := Int.mul_nonneg (Int.le_of_lt yp) r1
  have g2 := Int.mul_nonneg (Int.le_of_lt xp) r2
  have w1 : rsE I J V a b a' = 0 := by
    rcases Int.mul_eq_zero.mp (show y * rsE I J V a b a' = 0 by omega) with k | k
    · omega
    · exact k
  have w2 : rsE I J V a' b a = 0 := by
    rcases Int.mul_eq_zero.mp (show x * rsE I J V a' b a = 0 by omega) with k | k
    · omega
    · exact k
  have := k1 w1
  have := k2 w2
  omega
theorem edges_le (hR : FR n I J V) (hS : FS n I J) (hn1 : 1 ≤ n) : ((edL n I J V).length : Int) + 1 ≤ n + (crL n I J V).1 := by
  have hn := hR.1
  obtain ⟨hs, -, hin⟩ := crL_good (I := I) (J := J) (V := V) hn
  have hok := edL_ok (I := I) (J := J) (V := V) hn
  obtain ⟨N, hN⟩ : ∃ N : Nat, (N : Int) = n := ⟨n.toNat, by omega⟩
  obtain ⟨C, hC⟩ : ∃ C : Nat, (C : Int) = (crL n I J V).1 := ⟨(crL n I J V).1.toNat, by have := hs.1; omega⟩
  let mid : EE → Prop := fun e => midP n I J V 1 (cpX I J V e.1 e.2.1 e.2.2.1) (cpXD I J V e.1 e.2.1 e.2.2.1) (cpY I J V e.1 e.2.1 e.2.2.1) (cpYD I J V e.1 e.2.1 e.2.2.1) e.2.1
  let at_ : EE → Int → Prop := fun e k => (crL n I J V).2.1 k = cpX I J V e.1 e.2.1 e.2.2.1 ∧ (crL n I J V).2.2.1 k = cpXD I J V e.1 e.2.1 e.2.2.1 ∧ (crL n I J V).2.2.2.1 k = cpY I J V e.1 e.2.1 e.2.2.1 ∧ (crL n I J V).2.2.2.2.1 k = cpYD I J V e.1 e.2.1 e.2.2.1
  let R : Nat → Nat → Prop := fun k c => (∃ e, (edL n I J V)[k]? = some e ∧ ((c < N ∧ (c : Int) = e.2.1 ∧ (e.2.2.1 = -1 ∨ (e.2.2.1 ≠ -1 ∧ mid e))) ∨ (N ≤ c ∧ e.2.2.1 ≠ -1 ∧ ¬ mid e ∧ at_ e ((c : Int) - N)))) ∨ (k = (edL n I J V).length ∧ c = 0)
  have low : ∀ e ∈ edL n I J V, e.2.2.1 ≠ -1 → isEnd I J V n e.1 e.2.1 e.2.2.1 ∧ 0 < trE I J e.1 e.2.1 e.2.2.1 := fun e he h => by
    obtain ⟨o1, o2, o3, o4⟩ := hok e he
    exact end_low hS o1 o2 o3 o4 h
  have fst : ∀ e ∈ edL n I J V, e.2.2.1 = -1 → stF n I J V e.1 e.2.1 = some (-1, e.2.2.2) := fun e he h => by
    obtain ⟨o1, o2, o3, o4⟩ := hok e he
    rw [h] at o4; exact o4
  have key := php (N + C) ((edL n I J V).length + 1) R (fun k hk => by
    by_cases c : k < (edL n I J V).length
    · obtain ⟨e, he⟩ : ∃ e, (edL n I J V)[k]? = some e := ⟨_, List.getElem?_eq_getElem c⟩
      have hem := List.mem_of_getElem? he
      obtain ⟨o1, o2, o3, o4⟩ := hok e hem
      by_cases q : e.2.2.1 = -1
      · exact ⟨e.2.1.toNat, by omega, Or.inl ⟨e, he, Or.inl ⟨by omega, by omega, Or.inl q⟩⟩⟩
      · rcases Classical.em (mid e) with m | m
        · exact ⟨e.2.1.toNat, by omega, Or.inl ⟨e, he, Or.inl ⟨by omega, by omega, Or.inr ⟨q, m⟩⟩⟩⟩
        · obtain ⟨i, i0, i1, p1, p2, p3, p4⟩ := hin _ _ _ _ ⟨e, hem, e.2.2.1, Or.inl rfl, q, rfl, rfl, rfl, rfl⟩
          refine ⟨N + i.toNat, by omega, Or.inl ⟨e, he, Or.inr ⟨by omega, q, m, ?_⟩⟩⟩
          show at_ e (((N + i.toNat : Nat) : Int) - N)
          rw [show ((N + i.toNat : Nat) : Int) - N = i by omega]
          exact ⟨p1, p2, p3, p4⟩
    · exact ⟨0, by omega, Or.inr ⟨by omega, rfl⟩⟩) (fun k k' c hk hk' r r' => by
    rcases r with ⟨e, he, r⟩ | ⟨r1, r2⟩
    · have hem := List.mem_of_getElem? he
      obtain ⟨o1, o2, o3, o4⟩ := hok e hem
      rcases r' with ⟨e', he', r'⟩ | ⟨s1, s2⟩
      · have hem' := List.mem_of_getElem? he'
        obtain ⟨o1', o2', o3', o4'⟩ := hok e' hem'
        rcases r with ⟨c1, c2, c3⟩ | ⟨c1, c2, c3, c4⟩
        · rcases r' with ⟨d1, d2, d3⟩ | ⟨d1, d2, d3, d4⟩
          · have eb : e.2.1 = e'.2.1 := by omega
            refine ed_inj he he' ?_ eb
            rcases c3 with c3 | ⟨c3, c5⟩
            · rcases d3 with d3 | ⟨d3, d5⟩
              · have f1 := fst e hem c3
                have f2 := fst e' hem' d3
                rw [← eb] at f2 o2'
                exact no_same hR hS o1 o2 o3 o1' o2' f1 f2
              · have f1 := fst e hem c3
                have d5 : midP n I J V 1 _ _ _ _ e'.2.1 := d5
                rw [← eb] at d5
                exact absurd d5 (no_mid hR hS o1 o2 o3 f1)
            · rcases d3 with d3 | ⟨d3, d5⟩
              · have f1 := fst e' hem' d3
                have c5 : midP n I J V 1 _ _ _ _ e.2.1 := c5
                rw [eb] at c5
                exact absurd c5 (no_mid hR hS o1' o2' o3' f1)
              · obtain ⟨l1, l2⟩ := low e hem c3
                obtain ⟨l1', l2'⟩ := low e' hem' d3
                have c5 : midP n I J V 1 _ _ _ _ e.2.1 := c5
                have d5 : midP n I J V 1 _ _ _ _ e'.2.1 := d5
                have ht := l1.2.2.2.2.2.1
                have ht' := l1'.2.2.2.2.2.1
                have d6 := d5
                rw [← eb] at d6
                rw [← eb] at l1' l2' d5 ht'
                have rd1 := cp_red (V := V) ht
                have rd2 := cp_red (V := V) ht'
                obtain ⟨u1, u2⟩ := mid_uni hR hS (Or.inl rfl) rd1.1 rd2.1 c5 d5
                obtain ⟨p1, p2, p3, p4⟩ := red_eq rd1 rd2 u1 u2
                have m1 := (end_abl hR l1).1
                have m2 := (end_abl hR l1').1
                have m1' : MinC n I J V e'.1 e.2.1 e'.2.2.1 e.1 := by unfold MinC; rw [← p1, ← p2, ← p3, ← p4]; exact m1
                have m2' : MinC n I J V e.1 e.2.1 e.2.2.1 e'.1 := by unfold MinC; rw [p1, p2, p3, p4]; exact m2
                exact low_same hR l1 l2 l1' l2' m2' m1'
          · omega
        · rcases r' with ⟨d1, d2, d3⟩ | ⟨d1, d2, d3, d4⟩
          · omega
          · obtain ⟨l1, l2⟩ := low e hem c2
            obtain ⟨l1', l2'⟩ := low e' hem' d2
            obtain ⟨a1, a2, a3, a4⟩ := c4
            obtain ⟨b1, b2, b3, b4⟩ := d4
            have p1 := a1.symm.trans b1
            have p2 := a2.symm.trans b2
            have p3 := a3.symm.trans b3
            have p4 := a4.symm.trans b4
            obtain ⟨ma, mb, -⟩ := end_abl hR l1
            obtain ⟨ma', mb', -⟩ := end_abl hR l1'
            have tr1 : ∀ m, MinC n I J V e.1 e.2.1 e.2.2.1 m → MinC n I J V e'.1 e'.2.1 e'.2.2.1 m := fun m h => by unfold MinC; rw [← p1, ← p2, ← p3, ← p4]; exact h
            have tr2 : ∀ m, MinC n I J V e'.1 e'.2.1 e'.2.2.1 m → MinC n I J V e.1 e.2.1 e.2.2.1 m := fun m h => by unfold MinC; rw [p1, p2, p3, p4]; exact h
            have g1 := low_great hR l1 l2 c3 (tr2 _ mb')
            have g2 := low_great hR l1' l2' d3 (tr1 _ mb)
            have eb : e.2.1 = e'.2.1 := by omega
            refine ed_inj he he' ?_ eb
            have x1 := tr2 _ ma'
            have x2 := tr1 _ ma
            rw [← eb] at l1' l2' x2
            exact low_same hR l1 l2 l1' l2' x1 x2
      · rcases r with ⟨c1, c2, c3⟩ | ⟨c1, c2, c3, c4⟩
        · omega
        · omega
    · rcases r' with ⟨e', he', r'⟩ | ⟨s1, s2⟩
      · obtain ⟨o1', o2', o3', o4'⟩ := hok e' (List.mem_of_getElem? he')
        rcases r' with ⟨d1, d2, d3⟩ | ⟨d1, d2, d3, d4⟩
        · omega
        · omega
      · omega)
  omega
/-- CAPACITY -/
theorem cap_le (hR : FR n I J V) (hS : FS n I J) : (edL n I J V).length ≤ 114 ∧ (crL n I J V).1 ≤ 75 := by
  have n0 := hR.1
  have n40 := hR.2.1
  have hs := (crL_good (I := I) (J := J) (V := V) n0).1.1
  by_cases c : 0 < (crL n I J V).1
  · obtain ⟨h1, h2⟩ := corners_le hR hS c
    have h3 := edges_le hR hS (show 1 ≤ n by omega)
    omega
  · by_cases c2 : 1 ≤ n
    · have h3 := edges_le hR hS c2
      omega
    · have e : n = 0 := by omega
      have : (edL n I J V).length = 0 := by rw [e]; rfl
      omega
end CT
