/-! GEOMETRY: idle terms are those where no edge ends -/
section ID
variable {n : Int} {I J V : Int → Int}
theorem rs_n (a b m : Int) : rsE I J V a b m = Rsn (I b - I a) (J b - J a) (V b - V a) (I m - I a) (J m - J a) (V m - V a) := by unfold rsE Rsn; grind
theorem rs_m (a b m : Int) : rsE I J V a b m = Rsn (I a - I b) (J a - J b) (V a - V b) (I m - I b) (J m - J b) (V m - V b) := by unfold rsE Rsn; grind
theorem tr_m (a b m : Int) : trE I J a b m = -(Trn (I a - I b) (J a - J b) (I m - I b) (J m - J b)) := by unfold trE Trn; grind
theorem ph_up {s t : Int} (hR : FR n I J V) (hS : FS n I J) (hs : 0 ≤ s ∧ s < n) (ht : 0 ≤ t ∧ t < n) : ph (I s - I t) (J s - J t) ≤ 0 → s ≤ t := by
  intro h
  rcases (show s ≤ t ∨ t < s by omega) with k | k
  · exact k
  · have := ph_lex hR hS ht.1 k hs.2; omega
/-- the way to the neighbour: the farthest of those that a falling plane touches first -/
theorem edge_to {t X Y Z sg : Int} (hsg : sg = 1 ∨ sg = -1) (hZ : 0 < Z) (hX : ∀ k, 0 ≤ k → k < n → k ≠ t → 0 < Lf I J V t X Y Z k) (h0 : ∃ k, (0 ≤ k ∧ k < n) ∧ k ≠ t ∧ 0 < sg * ph (I k - I t) (J k - J t)) : ∃ s, (0 ≤ s ∧ s < n) ∧ s ≠ t ∧ 0 < sg * ph (I s - I t) (J s - J t) ∧ (0 < (I s - I t) * (I s - I t) + (J s - J t) * (J s - J t) → (∀ m, 0 ≤ m → m < n → m ≠ t → Trn (I s - I t) (J s - J t) (I m - I t) (J m - J t) = 0 → 0 ≤ Rsn (I s - I t) (J s - J t) (V s - V t) (I m - I t) (J m - J t) (V m - V t) ∧ (Rsn (I s - I t) (J s - J t) (V s - V t) (I m - I t) (J m - J t) (V m - V t) = 0 → 0 < sg * ph (I m - I t) (J m - J t) ∧ sg * ph (I m - I t) (J m - J t) ≤ sg * ph (I s - I t) (J s - J t))) ∧ ∀ k j, 0 ≤ k → k < n → 0 ≤ j → j < n → k ≠ t → j ≠ t → 0 < Trn (I s - I t) (J s - J t) (I k - I t) (J k - J t) → Trn (I s - I t) (J s - J t) (I j - I t) (J j - J t) < 0 → 0 < Trn (I s - I t) (J s - J t) (I k - I t) (J k - J t) * Rsn (I s - I t) (J s - J t) (V s - V t) (I j - I t) (J j - J t) (V j - V t) - Trn (I s - I t) (J s - J t) (I j - I t) (J j - J t) * Rsn (I s - I t) (J s - J t) (V s - V t) (I k - I t) (J k - J t) (V k - V t)) := by
  obtain ⟨k0, ⟨k00, k01⟩, k02, k03⟩ := h0
  generalize hf : (fun k => sg * ph (I k - I t) (J k - J t)) = f
  have fd : ∀ k, sg * ph (I k - I t) (J k - J t) = f k := fun k => by rw [← hf]
  generalize hg : (fun k => Lf I J V t X Y Z k) = g
  have gd : ∀ k, Lf I J V t X Y Z k = g k := fun k => by rw [← hg]
  simp only [gd] at hX
  rw [fd] at k03
  rcases frmax f g (fun k => k ≠ t ∧ 0 < f k) n.toNat (fun k q0 q1 q2 => hX k q0 (by omega) q2.1) with c | ⟨h, ⟨h0, h1⟩, ⟨h2, h3⟩, h4⟩
  · exact absurd ⟨k02, k03⟩ (c k0 k00 (by omega))
  rcases frmax (fun k => I k - I t) f (fun k => k ≠ t ∧ 0 < f k ∧ f k * g h = f h * g k) n.toNat (fun k q0 q1 q2 => q2.2.1) with c | ⟨h', ⟨h0', h1'⟩, ⟨h2', h3', h5'⟩, h4'⟩
  · exact absurd ⟨h2, h3, rfl⟩ (c h h0 h1)
  rcases frmax f (fun _ => 1) (fun k => k ≠ t ∧ 0 < f k ∧ f k * g h = f h * g k ∧ (I k - I t) * f h' = (I h' - I t) * f k) n.toNat (fun k q0 q1 q2 => by decide) with c | ⟨s, ⟨s0, s1⟩, ⟨s2, s3, s5, s6⟩, s4⟩
  · exact absurd ⟨h2', h3', h5', rfl⟩ (c h' h0' h1')
  have gs := hX s s0 (by omega) s2
  have gh := hX h h0 (by omega) h2
  have A : ∀ m, 0 ≤ m → m < n → m ≠ t → f m * g s ≤ f s * g m := by
    intro m m0 m1 mt
    have gm := hX m m0 m1 mt
    by_cases c : 0 < f m
    · exact fr_tr gm gh gs (h4 m m0 (by omega) ⟨mt, c⟩) (Int.le_of_eq s5.symm)
    · have e1 := Int.mul_nonneg (show 0 ≤ -(f m) by omega) (Int.le_of_lt gs)
      have e2 := Int.mul_pos s3 gm
      rw [Int.neg_mul] at e1
      omega
  have B : ∀ m, 0 ≤ m → m < n → m ≠ t → f m * g s = f s * g m → 0 < f m ∧ (I m - I t) * f s ≤ (I s - I t) * f m ∧ ((I m - I t) * f s = (I s - I t) * f m → f m ≤ f s) := by
    intro m m0 m1 mt he
    have gm := hX m m0 m1 mt
    have fm : 0 < f m := by
      have := Int.mul_pos s3 gm
      rw [← he, Int.mul_comm] at this
      exact pos_l this gs
    have t1 : f m * g h = f h * g m := Int.le_antisymm (h4 m m0 (by omega) ⟨mt, fm⟩) (fr_tr gh gs gm (Int.le_of_eq s5.symm) (Int.le_of_eq he.symm))
    have t2 := h4' m m0 (by omega) ⟨mt, fm, t1⟩
    have t3 := fr_tr fm h3' s3 t2 (Int.le_of_eq s6.symm)
    refine ⟨fm, t3, fun q => ?_⟩
    have t4 : (I m - I t) * f h' = (I h' - I t) * f m := Int.le_antisymm t2 (fr_tr h3' s3 fm (Int.le_of_eq s6.symm) (Int.le_of_eq q.symm))
    have := s4 m m0 (by omega) ⟨mt, fm, t1, t4⟩
    omega
  have lin : ∀ m, (f s * X - g s * (sg * 9)) * (I m - I t) + (f s * Y - g s * sg) * (J m - J t) + (f s * Z) * (V m - V t) = f s * g m - f m * g s := by
    intro m; rw [← fd m, ← gd m]; unfold Lf ph; grind
  have trs : ∀ m, (I s - I t) * f m - (I m - I t) * f s = sg * Trn (I s - I t) (J s - J t) (I m - I t) (J m - J t) := by
    intro m; rw [← fd m, ← fd s]; unfold Trn ph; grind
  have hZ' := Int.mul_pos s3 hZ
  simp only [fd]
  refine ⟨s, ⟨s0, by omega⟩, s2, s3, fun nn => ⟨fun m m0 m1 mt htr => ?_, fun k j q0 q1 q2 q3 kt jt tk tj => ?_⟩⟩
  · have r := rs_1 (f s * X - g s * (sg * 9)) (f s * Y - g s * sg) (f s * Z) (I s - I t) (J s - J t) (V s - V t) (I m - I t) (J m - J t) (V m - V t) htr
    rw [lin, lin, Int.sub_self, Int.mul_zero, Int.sub_zero] at r
    have am := A m m0 m1 mt
    have g1 := Int.mul_nonneg (Int.le_of_lt nn) (show 0 ≤ f s * g m - f m * g s by omega)
    rw [r] at g1
    refine ⟨Int.nonneg_of_mul_nonneg_right g1 hZ', fun q => ?_⟩
    rw [q, Int.mul_zero] at r
    have e : f m * g s = f s * g m := by
      rcases Int.mul_eq_zero.mp r with k | k <;> omega
    obtain ⟨b1, b2, b3⟩ := B m m0 m1 mt e
    have := trs m
    rw [htr, Int.mul_zero] at this
    exact ⟨b1, b3 (by omega)⟩
  · have r := rs_3 (f s * X - g s * (sg * 9)) (f s * Y - g s * sg) (f s * Z) (I s - I t) (J s - J t) (V s - V t) (I k - I t) (J k - J t) (V k - V t) (I j - I t) (J j - J t) (V j - V t)
    rw [lin, lin, lin, Int.sub_self, Int.mul_zero, Int.add_zero] at r
    rw [rs_2]
    refine Int.mul_pos nn ?_
    have ak := A k q0 q1 kt
    have aj := A j q2 q3 jt
    have trk := trs k
    have trj := trs j
    generalize Trn (I s - I t) (J s - J t) (I k - I t) (J k - J t) = a at *
    generalize Trn (I s - I t) (J s - J t) (I j - I t) (J j - J t) = b at *
    generalize a * (V j - V t) - b * (V k - V t) + Trn (I k - I t) (J k - J t) (I j - I t) (J j - J t) * (V s - V t) = W at *
    refine pos_l (a := f s * Z) ?_ hZ'
    rw [← r]
    have g1 := Int.mul_nonneg (Int.le_of_lt tk) (show 0 ≤ f s * g j - f j * g s by omega)
    have g2 := Int.mul_nonneg (show 0 ≤ -b by omega) (show 0 ≤ f s * g k - f k * g s by omega)
    rw [Int.neg_mul] at g2
    rcases (show 0 < a * (f s * g j - f j * g s) - b * (f s * g k - f k * g s) ∨ (a * (f s * g j - f j * g s) = 0 ∧ b * (f s * g k - f k * g s) = 0) by omega) with q | ⟨z1, z2⟩
    · exact q
    · exfalso
      have y1 : f j * g s = f s * g j := by rcases Int.mul_eq_zero.mp z1 with k | k <;> omega
      have y2 : f k * g s = f s * g k := by rcases Int.mul_eq_zero.mp z2 with k | k <;> omega
      have w1 := (B j q2 q3 jt y1).2.1
      have w2 := (B k q0 q1 kt y2).2.1
      rcases hsg with e | e
      · rw [e, Int.one_mul] at trj; omega
      · rw [e, Int.neg_mul, Int.one_mul] at trk; omega
theorem edge_of {t X Y Z : Int} (hR : FR n I J V) (hS : FS n I J) (ht : 0 ≤ t ∧ t < n) (hn : 2 ≤ n) (hZ : 0 < Z) (hX : ∀ k, 0 ≤ k → k < n → k ≠ t → 0 < Lf I J V t X Y Z k) : ∃ a b l g, (a = t ∨ b = t) ∧ 0 ≤ a ∧ a < b ∧ b < n ∧ stF n I J V a b = some (l, g) := by
  by_cases c : t < n - 1
  · obtain ⟨s, hs, st, h1, h2⟩ := edge_to (sg := 1) (Or.inl rfl) hZ hX ⟨n - 1, by omega, by omega, by rw [Int.one_mul]; exact ph_lex hR hS ht.1 c (by omega)⟩
    obtain ⟨h3, h4⟩ := h2 (pl_ne hR hS hs ht st)
    rw [Int.one_mul] at h1
    have ts : t < s := by
      rcases (show t < s ∨ s < t by omega) with k | k
      · exact k
      · have := ph_lex hR hS hs.1 k ht.2; unfold ph at this h1; omega
    obtain ⟨l, g, e⟩ := stF_some (n := n) (I := I) (J := J) (V := V) (a := t) (b := s) (by omega) (fun m m0 m1 q => by
      obtain ⟨q1, q2⟩ := q
      rw [rs_n] at q2
      by_cases mt : m = t
      · rw [mt] at q2
        have z : Rsn (I s - I t) (J s - J t) (V s - V t) (I t - I t) (J t - J t) (V t - V t) = 0 := by unfold Rsn; grind
        omega
      · obtain ⟨r1, r2⟩ := h3 m m0 m1 mt q1
        rcases q2 with k | ⟨k1, k2⟩
        · omega
        · obtain ⟨w1, w2⟩ := r2 k1
          rw [Int.one_mul] at w1
          rw [Int.one_mul, Int.one_mul] at w2
          have x1 : t ≤ m := ph_up hR hS ht ⟨m0, m1⟩ (by unfold ph at w1 ⊢; omega)
          have x2 : m ≤ s := ph_up hR hS ⟨m0, m1⟩ hs (by unfold ph at w2 ⊢; omega)
          omega) (fun k j k0 k1 j0 j1 tk tj => by
      have kt : k ≠ t := by intro e; rw [e] at tk; have : trE I J t s t = 0 := by unfold trE; grind
                            omega
      have jt : j ≠ t := by intro e; rw [e] at tj; have : trE I J t s t = 0 := by unfold trE; grind
                            omega
      have := h4 k j k0 k1 j0 j1 kt jt tk tj
      rw [rs_n, rs_n]
      unfold trE
      unfold Trn at this
      generalize Rsn (I s - I t) (J s - J t) (V s - V t) (I k - I t) (J k - J t) (V k - V t) = rk at *
      generalize Rsn (I s - I t) (J s - J t) (V s - V t) (I j - I t) (J j - J t) (V j - V t) = rj at *
      generalize (I s - I t) * (J k - J t) - (J s - J t) * (I k - I t) = a at *
      generalize (I s - I t) * (J j - J t) - (J s - J t) * (I j - I t) = b at *
      rw [Int.neg_mul_neg, Int.mul_comm rk b, Int.mul_comm rj a]
      omega)
    exact ⟨t, s, l, g, Or.inl rfl, ht.1, ts, hs.2, e⟩
  · obtain ⟨s, hs, st, h1, h2⟩ := edge_to (sg := -1) (Or.inr rfl) hZ hX ⟨0, by omega, by omega, by have := ph_lex hR hS (Int.le_refl 0) (show 0 < t by omega) ht.2; unfold ph at this ⊢; omega⟩
    obtain ⟨h3, h4⟩ := h2 (pl_ne hR hS hs ht st)
    have ts : s < t := by omega
    obtain ⟨l, g, e⟩ := stF_some (n := n) (I := I) (J := J) (V := V) (a := s) (b := t) (by omega) (fun m m0 m1 q => by
      obtain ⟨q1, q2⟩ := q
      rw [rs_m] at q2
      rw [tr_m] at q1
      by_cases mt : m = t
      · rw [mt] at q2
        have z : Rsn (I s - I t) (J s - J t) (V s - V t) (I t - I t) (J t - J t) (V t - V t) = 0 := by unfold Rsn; grind
        omega
      · obtain ⟨r1, r2⟩ := h3 m m0 m1 mt (by omega)
        rcases q2 with k | ⟨k1, k2⟩
        · omega
        · obtain ⟨w1, w2⟩ := r2 k1
          have x1 : m ≤ t := ph_up hR hS ⟨m0, m1⟩ ht (by unfold ph at w1 ⊢; omega)
          have x2 : s ≤ m := ph_up hR hS hs ⟨m0, m1⟩ (by unfold ph at w2 ⊢; omega)
          omega) (fun k j k0 k1 j0 j1 tk tj => by
      have kt : k ≠ t := by intro e; rw [e] at tk; have : trE I J s t t = 0 := by unfold trE; grind
                            omega
      have jt : j ≠ t := by intro e; rw [e] at tj; have : trE I J s t t = 0 := by unfold trE; grind
                            omega
      rw [tr_m] at tk tj
      have := h4 j k j0 j1 k0 k1 jt kt (by omega) (by omega)
      rw [rs_m, rs_m, tr_m, tr_m]
      generalize Rsn (I s - I t) (J s - J t) (V s - V t) (I k - I t) (J k - J t) (V k - V t) = rk at *
      generalize Rsn (I s - I t) (J s - J t) (V s - V t) (I j - I t) (J j - J t) (V j - V t) = rj at *
      generalize Trn (I s - I t) (J s - J t) (I k - I t) (J k - J t) = a at *
      generalize Trn (I s - I t) (J s - J t) (I j - I t) (J j - J t) = b at *
      rw [Int.neg_neg, Int.neg_mul, Int.mul_neg, Int.mul_comm rk b, Int.mul_comm rj a]
      omega)
    exact ⟨s, t, l, g, Or.inr rfl, hs.1, ts, ht.2, e⟩
/-- a point inside the stretch -/
theorem ed_in {a b l g : Int} (hR : FR n I J V) (hS : FS n I J) (h0 : 0 ≤ a) (hab : a < b) (hb : b < n) (h : stF n I J V a b = some (l, g)) : ∃ x q : Int, 0 < q ∧ ∀ k, 0 ≤ k → k < n → 0 ≤ q * rsE I J V a b k + x * trE I J a b k ∧ (q * rsE I J V a b k + x * trE I J a b k = 0 → trE I J a b k = 0 ∧ a ≤ k ∧ k ≤ b) := by
  obtain ⟨⟨a1, a2⟩, ⟨b1, b2⟩, hbd, he⟩ := stF_max (by omega) h
  obtain ⟨x, q, q0, hq⟩ := one_d (fun k => trE I J a b k) (fun k => rsE I J V a b k) (fun k => trE I J a b k ≠ 0) n.toNat (fun k _ _ kp kc => absurd kc kp) (fun k j k0 k1 j0 j1 _ _ ck cj => by
    obtain ⟨p1, p2⟩ := a2 k k0 (by omega) ck
    obtain ⟨g1, g2⟩ := b2 j j0 (by omega) cj
    have tl : 0 < trE I J a b l := by rcases a1 with s | s; exact absurd s p1; exact s
    have tg : trE I J a b g < 0 := by rcases b1 with s | s; exact absurd s g1; exact s
    have h3 : -(rsE I J V a b l) * -(trE I J a b g) < rsE I J V a b g * trE I J a b l := by
      rcases (show -(rsE I J V a b l) * -(trE I J a b g) < rsE I J V a b g * trE I J a b l ∨ rsE I J V a b g * trE I J a b l ≤ -(rsE I J V a b l) * -(trE I J a b g) by omega) with s | s
      · exact s
      · exact absurd ⟨p1, g1, s⟩ he
    have h4 := fr_lt (a := -(rsE I J V a b k)) (b := trE I J a b k) (c := -(rsE I J V a b l)) (d := trE I J a b l) (e := rsE I J V a b g) (f := -(trE I J a b g)) ck tl (by omega) p2 h3
    have h5 := fr_lt2 (b := trE I J a b k) (d := -(trE I J a b g)) (f := -(trE I J a b j)) ck (by omega) (by omega) h4 g2
    rw [Int.neg_mul_neg] at h5
    rw [Int.mul_comm (trE I J a b k), Int.mul_comm (trE I J a b j)]
    omega)
  refine ⟨x, q, q0, fun k k0 k1 => ?_⟩
  by_cases c : trE I J a b k = 0
  · have nb := hbd k k0 k1
    rw [c, Int.mul_zero, Int.add_zero]
    have r0 : 0 ≤ rsE I J V a b k := by
      rcases (show 0 ≤ rsE I J V a b k ∨ rsE I J V a b k < 0 by omega) with s | s
      · exact s
      · exact absurd ⟨c, Or.inl s⟩ nb
    refine ⟨Int.mul_nonneg (Int.le_of_lt q0) r0, fun z => ⟨rfl, ?_⟩⟩
    have rz : rsE I J V a b k = 0 := by rcases Int.mul_eq_zero.mp z with s | s; omega; exact s
    by_cases s : a ≤ k ∧ k ≤ b
    · exact s
    · exact absurd ⟨c, Or.inr ⟨rz, by omega⟩⟩ nb
  · have := hq k k0 (by omega) c
    exact ⟨Int.le_of_lt this, fun z => absurd z (Int.ne_of_gt this)⟩
theorem ed_comb {a b l g t : Int} (hR : FR n I J V) (hS : FS n I J) (h0 : 0 ≤ a) (hab : a < b) (hb : b < n) (h : stF n I J V a b = some (l, g)) (ht : a = t ∨ b = t) {k1 k2 k3 a1 a2 a3 : Int} (r1 : 0 ≤ k1 ∧ k1 < n) (r2 : 0 ≤ k2 ∧ k2 < n) (r3 : 0 ≤ k3 ∧ k3 < n) (n1 : k1 ≠ t) (n2 : k2 ≠ t) (n3 : k3 ≠ t) (p1 : 0 ≤ a1) (p2 : 0 ≤ a2) (p3 : 0 ≤ a3) (ps : 0 < a1 + a2 + a3) (eu : a1 * (I k1 - I t) + a2 * (I k2 - I t) + a3 * (I k3 - I t) = 0) (ev : a1 * (J k1 - J t) + a2 * (J k2 - J t) + a3 * (J k3 - J t) = 0) (ew : a1 * (V k1 - V t) + a2 * (V k2 - V t) + a3 * (V k3 - V t) ≤ 0) : False := by
  obtain ⟨x, q, q0, hq⟩ := ed_in hR hS h0 hab hb h
  have nn := pq_pos (hS a b h0 hab hb)
  have main : ∃ X Y Z sg : Int, 0 < Z ∧ ∀ k, 0 ≤ k → k < n → k ≠ t → 0 ≤ Lf I J V t X Y Z k ∧ (Lf I J V t X Y Z k = 0 → 0 < sg * ph (I k - I t) (J k - J t)) := by
    refine ⟨-(q * (V b - V a) * (I b - I a)) - x * (J b - J a), -(q * (V b - V a) * (J b - J a)) + x * (I b - I a), q * ((I b - I a) * (I b - I a) + (J b - J a) * (J b - J a)), if a = t then 1 else -1, Int.mul_pos q0 nn, fun k k0 k1 kt => ?_⟩
    obtain ⟨c1, c2⟩ := hq k k0 k1
    have e : Lf I J V t (-(q * (V b - V a) * (I b - I a)) - x * (J b - J a)) (-(q * (V b - V a) * (J b - J a)) + x * (I b - I a)) (q * ((I b - I a) * (I b - I a) + (J b - J a) * (J b - J a))) k = q * rsE I J V a b k + x * trE I J a b k := by
      rcases ht with e | e
      · rw [← e]; unfold Lf rsE trE; grind
      · rw [← e]; unfold Lf rsE trE; grind
    rw [e]
    refine ⟨c1, fun z => ?_⟩
    obtain ⟨-, d2, d3⟩ := c2 z
    by_cases ea : a = t
    · rw [if_pos ea, Int.one_mul, ← ea]
      exact ph_lex hR hS h0 (by omega) k1
    · rw [if_neg ea]
      have eb : b = t := by rcases ht with s | s; exact absurd s ea; exact s
      have := ph_lex hR hS k0 (show k < b by omega) hb
      rw [← eb]
      unfold ph at this ⊢
      omega
  obtain ⟨X, Y, Z, sg, hZ, hk⟩ := main
  have s1 := hk k1 r1.1 r1.2 n1
  have s2 := hk k2 r2.1 r2.2 n2
  have s3 := hk k3 r3.1 r3.2 n3
  have e1 : a1 * Lf I J V t X Y Z k1 + a2 * Lf I J V t X Y Z k2 + a3 * Lf I J V t X Y Z k3 = X * (a1 * (I k1 - I t) + a2 * (I k2 - I t) + a3 * (I k3 - I t)) + Y * (a1 * (J k1 - J t) + a2 * (J k2 - J t) + a3 * (J k3 - J t)) + Z * (a1 * (V k1 - V t) + a2 * (V k2 - V t) + a3 * (V k3 - V t)) := by unfold Lf; grind
  have e2 : a1 * (sg * ph (I k1 - I t) (J k1 - J t)) + a2 * (sg * ph (I k2 - I t) (J k2 - J t)) + a3 * (sg * ph (I k3 - I t) (J k3 - J t)) = sg * (9 * (a1 * (I k1 - I t) + a2 * (I k2 - I t) + a3 * (I k3 - I t)) + (a1 * (J k1 - J t) + a2 * (J k2 - J t) + a3 * (J k3 - J t))) := by unfold ph; grind
  rw [eu, ev, Int.mul_zero, Int.mul_zero] at e1
  rw [eu, ev, Int.mul_zero, Int.add_zero, Int.mul_zero] at e2
  have g0 := Int.mul_nonneg (Int.le_of_lt hZ) (Int.neg_nonneg_of_nonpos ew)
  rw [Int.mul_neg] at g0
  generalize Lf I J V t X Y Z k1 = f1 at *
  generalize Lf I J V t X Y Z k2 = f2 at *
  generalize Lf I J V t X Y Z k3 = f3 at *
  have g1 := Int.mul_nonneg p1 s1.1
  have g2 := Int.mul_nonneg p2 s2.1
  have g3 := Int.mul_nonneg p3 s3.1
  have z1 : a1 * f1 = 0 := by omega
  have z2 : a2 * f2 = 0 := by omega
  have z3 : a3 * f3 = 0 := by omega
  have sn : ∀ c f p : Int, 0 ≤ c → c * f = 0 → (f = 0 → 0 < p) → 0 ≤ c * p ∧ (0 < c → 0 < c * p) := by
    intro c f p hc hz hp
    rcases (show c = 0 ∨ 0 < c by omega) with s | s
    · rw [s, Int.zero_mul]; exact ⟨Int.le_refl _, fun q => by omega⟩
    · have : f = 0 := by rcases Int.mul_eq_zero.mp hz with k | k; omega; exact k
      have := Int.mul_pos s (hp this)
      exact ⟨Int.le_of_lt this, fun _ => this⟩
  have y1 := sn _ _ _ p1 z1 s1.2
  have y2 := sn _ _ _ p2 z2 s2.2
  have y3 := sn _ _ _ p3 z3 s3.2
  omega
theorem ed_no {a b l g t : Int} (hR : FR n I J V) (hS : FS n I J) (h0 : 0 ≤ a) (hab : a < b) (hb : b < n) (h : stF n I J V a b = some (l, g)) (ht : a = t ∨ b = t) : ¬ idM n I J V t := by
  rintro ⟨k, P, k0, kP, Pn, kt, Pt, hu | ⟨c, c0, c1, ct, hu⟩⟩
  · obtain ⟨u1, u2, u3, u4⟩ := hu
    have nn := pq_pos (hS k P k0 kP Pn)
    have x1 : byE I J k P * (I k - I t) + ptE I J t k P * (I P - I k) = (J P - J k) * trE I J k P t := by unfold byE ptE trE; grind
    have x2 : byE I J k P * (J k - J t) + ptE I J t k P * (J P - J k) = -(I P - I k) * trE I J k P t := by unfold byE ptE trE; grind
    rw [u1, Int.mul_zero] at x1 x2
    have nb : 0 < byE I J k P := nn
    generalize byE I J k P = B at *
    generalize ptE I J t k P = p at *
    refine ed_comb hR hS h0 hab hb h ht (k1 := k) (k2 := P) (k3 := k) (a1 := B - p) (a2 := p) (a3 := 0) ⟨k0, by omega⟩ ⟨by omega, Pn⟩ ⟨k0, by omega⟩ kt Pt kt (by omega) u2 (Int.le_refl _) (by omega) ?_ ?_ ?_
    · rw [Int.zero_mul]; grind
    · rw [Int.zero_mul]; grind
    · have : (B - p) * (V k - V t) + p * (V P - V t) + 0 * (V k - V t) = V k * (B - p) + V P * p - V t * B := by grind
      omega
  · obtain ⟨u0, u1, u2, u3, u4⟩ := hu
    have x0 : trE I J t P c + trE I J k t c + trE I J k P t = trE I J k P c := by unfold trE; grind
    have x1 : trE I J t P c * (I k - I t) + trE I J k t c * (I P - I t) + trE I J k P t * (I c - I t) = 0 := by unfold trE; grind
    have x2 : trE I J t P c * (J k - J t) + trE I J k t c * (J P - J t) + trE I J k P t * (J c - J t) = 0 := by unfold trE; grind
    have sgp : 0 < trE I J k P c * sg1 (trE I J k P c) := by unfold sg1; split <;> omega
    generalize sg1 (trE I J k P c) = s at *
    generalize trE I J k P c = T at *
    generalize trE I J t P c = α at *
    generalize trE I J k t c = β at *
    generalize trE I J k P t = γ at *
    refine ed_comb hR hS h0 hab hb h ht (k1 := k) (k2 := P) (k3 := c) (a1 := α * s) (a2 := β * s) (a3 := γ * s) ⟨k0, by omega⟩ ⟨by omega, Pn⟩ ⟨by omega, c1⟩ kt Pt ct u1 u2 u3 ?_ ?_ ?_ ?_
    · have : α * s + β * s + γ * s = T * s := by rw [← x0]; grind
      omega
    · have : α * s * (I k - I t) + β * s * (I P - I t) + γ * s * (I c - I t) = s * (α * (I k - I t) + β * (I P - I t) + γ * (I c - I t)) := by grind
      rw [this, x1, Int.mul_zero]
    · have : α * s * (J k - J t) + β * s * (J P - J t) + γ * s * (J c - J t) = s * (α * (J k - J t) + β * (J P - J t) + γ * (J c - J t)) := by grind
      rw [this, x2, Int.mul_zero]
    · have : α * s * (V k - V t) + β * s * (V P - V t) + γ * s * (V c - V t) = (α * s * V k + β * s * V P + γ * s * V c) - V t * T * s := by rw [← x0]; grind
      omega
theorem edJ_mem {a b l g : Int} (h : stF n I J V a b = some (l, g)) : ∀ (m : Nat) (c : Int) (L : List EE), c ≤ b → b < c + m → (a, b, l, g) ∈ edJ n I J V a m c L
  | 0, c, L, h0, h1 => absurd h1 (by omega)
  | m + 1, c, L, h0, h1 => by
    show (a, b, l, g) ∈ edJ n I J V a m (c + 1) (edE n I J V L a c)
    by_cases e : c = b
    · obtain ⟨R, hR⟩ := edJ_app (n := n) (I := I) (J := J) (V := V) (a := a) m (c + 1) (edE n I J V L a c)
      rw [hR, e]
      unfold edE
      rw [h]
      exact List.mem_append_left _ (List.mem_append_right _ (List.mem_singleton.mpr rfl))
    · exact edJ_mem h m (c + 1) _ (by omega) (by omega)
theorem edI_mem {a b l g : Int} (hab : a < b) (hb : b < n) (h : stF n I J V a b = some (l, g)) : ∀ (m : Nat) (c : Int) (L : List EE), c ≤ a → a < c + m → (a, b, l, g) ∈ edI n I J V m c L
  | 0, c, L, h0, h1 => absurd h1 (by omega)
  | m + 1, c, L, h0, h1 => by
    show (a, b, l, g) ∈ edI n I J V m (c + 1) (edJ n I J V c (n - (c + 1)).toNat (c + 1) L)
    by_cases e : c = a
    · obtain ⟨R, hR⟩ := edI_app (n := n) (I := I) (J := J) (V := V) m (c + 1) (edJ n I J V c (n - (c + 1)).toNat (c + 1) L)
      rw [hR, e]
      exact List.mem_append_left _ (edJ_mem h _ _ _ (by omega) (by omega))
    · exact edI_mem hab hb h m (c + 1) _ (by omega) (by omega)
theorem idl_ok (hR : FR n I J V) (hS : FS n I J) : idOK n I J V (fun t => idlC n ((edL n I J V).length : Int) (eFo (edL n I J V)) (eLa (edL n I J V)) t) := by
  intro t t0 t1
  dsimp only
  unfold idlC
  by_cases c : 2 ≤ n ∧ srch (fun e => decide (eFo (edL n I J V) e = t) || decide (eLa (edL n I J V) e = t)) (((edL n I J V).length : Int)).toNat 0 = -1
  · rw [if_pos c]
    refine ⟨Or.inr rfl, fun _ => ?_, fun _ => rfl⟩
    rcases gord hR hS ⟨t0, t1⟩ n.toNat (by omega) with ⟨X, Y, Z, hZ, hX⟩ | h
    · exfalso
      obtain ⟨a, b, l, g, ht, h0, hab, hb, h⟩ := edge_of hR hS ⟨t0, t1⟩ c.1 hZ (fun k k0 k1 kt => hX k k0 (by omega) kt)
      have hm : (a, b, l, g) ∈ edL n I J V := edI_mem hab hb h _ _ _ h0 (by omega)
      obtain ⟨i, hi⟩ := List.getElem?_of_mem hm
      obtain ⟨il, -⟩ := List.getElem?_eq_some_iff.mp hi
      obtain ⟨f1, f2, -⟩ := eFo_at hi
      have := srch_no _ _ _ c.2 (Int.le_refl _) (i : Int) (by omega) (by omega)
      rw [f1, f2] at this
      simp at this
      omega
    · exact h
  · rw [if_neg c]
    refine ⟨Or.inl rfl, fun h => absurd h (by decide), fun h => ?_⟩
    exfalso
    have h' := h
    obtain ⟨k, P, k0, kP, Pn, -⟩ := h'
    rcases srch_in (fun e => decide (eFo (edL n I J V) e = t) || decide (eLa (edL n I J V) e = t)) (((edL n I J V).length : Int)).toNat 0 with s | ⟨s0, s1, s2⟩
    · exact c ⟨by omega, s⟩
    · generalize srch (fun e => decide (eFo (edL n I J V) e = t) || decide (eLa (edL n I J V) e = t)) (((edL n I J V).length : Int)).toNat 0 = e at *
      have il : e.toNat < (edL n I J V).length := by omega
      have hi := List.getElem?_eq_getElem il
      obtain ⟨f1, f2, -⟩ := eFo_at hi
      rw [Int.toNat_of_nonneg s0] at f1 f2
      obtain ⟨o1, o2, o3, o4⟩ := edL_ok (by omega) _ (List.getElem_mem il)
      refine ed_no hR hS o1 o2 o3 o4 (t := t) ?_ h
      rw [f1, f2] at s2
      simp at s2
      exact s2
end ID
theorem IDa_ok {a : FA} (h : FOK a) : IDa a (idF a) := by
  intro f f0 f1
  obtain ⟨hR, hS, -⟩ := h.2 f f0 f1
  exact idl_ok hR hS
theorem DRa_ok {a : FA} (h : FOK a) : DRa a := by
  intro f f0 f1
  obtain ⟨hR, hS, -⟩ := h.2 f f0 f1
  exact drw_ok hR hS
