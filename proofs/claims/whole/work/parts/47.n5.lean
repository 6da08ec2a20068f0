/-! THE REFERENCE: the stretch of two terms, its points -/
def sbW (I J V : Int → Int) (a b : Int) : Nat → Int → Int → Int → Option (Int × Int)
  | 0, _, l, g => some (l, g)
  | f + 1, k, l, g => if bdE I J V a b k then none else sbW I J V a b f (k + 1) (stL I J V a b l k) (stG I J V a b g k)
theorem sbW_s {I J V : Int → Int} {a b n k l g : Int} (h : k < n) : sbW I J V a b (n - k).toNat k l g = if bdE I J V a b k then none else sbW I J V a b (n - (k + 1)).toNat (k + 1) (stL I J V a b l k) (stG I J V a b g k) := by
  rw [show (n - k).toNat = (n - (k + 1)).toNat + 1 by omega]; rfl
theorem sbW_e {I J V : Int → Int} {a b n k l g : Int} (h : n ≤ k) : sbW I J V a b (n - k).toNat k l g = some (l, g) := by rw [show (n - k).toNat = 0 by omega]; rfl
theorem em1 {A L K x y u : Int} (hx : 0 < x) (hy : 0 < y) (hu : 0 < u) (h1 : A * x ≤ L * u) (h2 : L * y ≤ K * x) : A * y ≤ K * u := by
  have a1 := Int.mul_le_mul_of_nonneg_right h1 (Int.le_of_lt hy)
  have a2 := Int.mul_le_mul_of_nonneg_right h2 (Int.le_of_lt hu)
  have e1 : x * (A * y) = A * x * y := by grind
  have e2 : x * (K * u) = K * x * u := by grind
  have e3 : L * u * y = L * y * u := by grind
  exact Int.le_of_mul_le_mul_left (show x * (A * y) ≤ x * (K * u) by omega) hx
abbrev okL (I J : Int → Int) (a b l : Int) : Prop := l = -1 ∨ 0 < trE I J a b l
abbrev okG (I J : Int → Int) (a b g : Int) : Prop := g = -1 ∨ trE I J a b g < 0
theorem okL_s {I J V : Int → Int} {a b l k : Int} (h : okL I J a b l) : okL I J a b (stL I J V a b l k) := by
  unfold stL lwU; split
  · split
    · exact Or.inr (by assumption)
    · exact h
  · exact h
theorem okG_s {I J V : Int → Int} {a b g k : Int} (h : okG I J a b g) : okG I J a b (stG I J V a b g k) := by
  unfold stG hgU; split
  · split
    · exact Or.inr (by assumption)
    · exact h
  · exact h
theorem em_step {I J V : Int → Int} {a b l g k : Int} (hl : okL I J a b l) (hg : okG I J a b g) (hk : 0 ≤ k) (h : emE I J V a b l g) : emE I J V a b (stL I J V a b l k) (stG I J V a b g k) := by
  obtain ⟨l1, g1, h1⟩ := h
  have tl : 0 < trE I J a b l := by rcases hl with q | q; exact absurd q l1; exact q
  have tg : trE I J a b g < 0 := by rcases hg with q | q; exact absurd q g1; exact q
  unfold stL stG
  by_cases c1 : 0 < trE I J a b k
  · rw [if_pos c1, if_neg (by omega)]
    unfold lwU
    by_cases c2 : l = -1 ∨ -(rsE I J V a b l) * trE I J a b k < -(rsE I J V a b k) * trE I J a b l
    · rw [if_pos c2]
      rcases c2 with c2 | c2
      · exact absurd c2 l1
      · exact ⟨by omega, g1, em1 tl c1 (by omega) h1 (Int.le_of_lt c2)⟩
    · rw [if_neg c2]; exact ⟨l1, g1, h1⟩
  · rw [if_neg c1]
    by_cases c3 : trE I J a b k < 0
    · rw [if_pos c3]
      unfold hgU
      by_cases c2 : g = -1 ∨ rsE I J V a b k * -(trE I J a b g) < rsE I J V a b g * -(trE I J a b k)
      · rw [if_pos c2]
        rcases c2 with c2 | c2
        · exact absurd c2 g1
        · refine ⟨l1, by omega, ?_⟩
          exact em1 (x := -(trE I J a b g)) (y := trE I J a b l) (u := -(trE I J a b k)) (by omega) tl (by omega) (Int.le_of_lt c2) h1
      · rw [if_neg c2]; exact ⟨l1, g1, h1⟩
    · rw [if_neg c3]; exact ⟨l1, g1, h1⟩
theorem sbW_em {I J V : Int → Int} {a b : Int} : ∀ (f : Nat) (k l g : Int), okL I J a b l → okG I J a b g → 0 ≤ k → emE I J V a b l g → ∀ l' g', sbW I J V a b f k l g = some (l', g') → emE I J V a b l' g'
  | 0, _, l, g, _, _, _, h, l', g', e => by cases e; exact h
  | f + 1, k, l, g, hl, hg, hk, h, l', g', e => by
    unfold sbW at e
    split at e
    · cases e
    · exact sbW_em f (k + 1) _ _ (okL_s hl) (okG_s hg) (by omega) (em_step hl hg hk h) l' g' e
theorem stW_N {I J V : Int → Int} {a b : Int} : ∀ (f : Nat) (k l g : Int), okL I J a b l → okG I J a b g → 0 ≤ k → ¬ emE I J V a b l g → stW I J V a b f k l g = (sbW I J V a b f k l g).bind (fun e => if emE I J V a b e.1 e.2 then none else some e)
  | 0, _, l, g, _, _, _, h => by
    show some (l, g) = if emE I J V a b l g then none else some (l, g)
    rw [if_neg h]
  | f + 1, k, l, g, hl, hg, hk, h => by
    unfold stW sbW
    by_cases c1 : bdE I J V a b k
    · rw [if_pos c1, if_pos c1]; rfl
    · rw [if_neg c1, if_neg c1]
      by_cases c2 : emE I J V a b (stL I J V a b l k) (stG I J V a b g k)
      · rw [if_pos c2]
        cases e : sbW I J V a b f (k + 1) (stL I J V a b l k) (stG I J V a b g k) with
        | none => rfl
        | some v =>
          have := sbW_em f (k + 1) _ _ (okL_s hl) (okG_s hg) (by omega) c2 v.1 v.2 e
          show none = if emE I J V a b v.1 v.2 then none else some v
          rw [if_pos this]
      · rw [if_neg c2]
        exact stW_N f (k + 1) _ _ (okL_s hl) (okG_s hg) (by omega) c2
theorem stF_N (n : Int) (I J V : Int → Int) (a b : Int) : stF n I J V a b = (sbW I J V a b n.toNat 0 (-1) (-1)).bind (fun e => if emE I J V a b e.1 e.2 then none else some e) := stW_N _ _ _ _ (Or.inl rfl) (Or.inl rfl) (Int.le_refl _) (fun q => q.1 rfl)
/-- how fast a term rises by the way (d, e) -/
def slE (I J : Int → Int) (a d e k : Int) : Int := (I k - I a) * d + (J k - J a) * e
def byE (I J : Int → Int) (a b : Int) : Int := (I b - I a) * (I b - I a) + (J b - J a) * (J b - J a)
theorem slE_g {I J : Int → Int} {a b d e g k : Int} (hd : g * d = -(J b - J a)) (he : g * e = I b - I a) : g * slE I J a d e k = trE I J a b k := by
  unfold slE trE
  have : g * ((I k - I a) * d + (J k - J a) * e) = (I k - I a) * (g * d) + (J k - J a) * (g * e) := by grind
  rw [this, hd, he]; grind
theorem sgn_g {g s t : Int} (hg : 0 < g) (h : g * s = t) : (0 < s ↔ 0 < t) ∧ (s = 0 ↔ t = 0) ∧ (s < 0 ↔ t < 0) := by
  subst h
  rcases Int.lt_trichotomy s 0 with q | q | q
  · have := Int.mul_neg_of_pos_of_neg hg q; omega
  · subst q; simp
  · have := Int.mul_pos hg q; omega
/-- what the reference's fields say of the bounds -/
def BHM (z z2 : ZM) (n : Int) (I J V : Int → Int) (a b d e l g : Int) : Prop :=
  ((l = -1 ∧ z 184 27 = 0) ∨ (0 ≤ l ∧ l < n ∧ 0 < slE I J a d e l ∧ z 184 27 = 1 ∧ z2 184 29 = -(rsE I J V a b l) ∧ z2 184 30 = slE I J a d e l * byE I J a b)) ∧
  ((g = -1 ∧ z 184 28 = 0) ∨ (0 ≤ g ∧ g < n ∧ slE I J a d e g < 0 ∧ z 184 28 = 1 ∧ z2 184 31 = rsE I J V a b g ∧ z2 184 32 = -(slE I J a d e g) * byE I J a b))
def frB (z' z : ZM) : Prop := (∀ c, c ≠ 184 → z' c = z c) ∧ ∀ k, k ≠ 27 → k ≠ 28 → z' 184 k = z 184 k
def frBL (z' z : ZM) : Prop := (∀ c, c ≠ 184 → z' c = z c) ∧ ∀ k, (k < 29 ∨ 32 < k) → z' 184 k = z 184 k
theorem frB_p {z' z : ZM} {k v : Int} (h : frB z' z) (hk : k = 27 ∨ k = 28) : frB (zput z' 184 k v) z := ⟨fun c hc => by rw [zput_row hc]; exact h.1 c hc, fun j j1 j2 => by rw [zput_off (by omega)]; exact h.2 j j1 j2⟩
theorem frBL_p {z' z : ZM} {k v : Int} (h : frBL z' z) (hk : 29 ≤ k ∧ k ≤ 32) : frBL (zput z' 184 k v) z := ⟨fun c hc => by rw [zput_row hc]; exact h.1 c hc, fun j j1 => by rw [zput_off (by omega)]; exact h.2 j j1⟩
theorem byE_b {n : Int} {I J V : Int → Int} (hR : FR n I J V) {a b : Int} (ha : 0 ≤ a ∧ a < n) (hb : 0 ≤ b ∧ b < n) (hab : I b ≠ I a ∨ J b ≠ J a) : 1 ≤ byE I J a b ∧ byE I J a b ≤ 128 := by
  have h1 := hR.2.2 a ha.1 ha.2
  have h2 := hR.2.2 b hb.1 hb.2
  have a3 := sq_b (x := I b - I a) (by omega)
  have a4 := sq_b (x := J b - J a) (by omega)
  unfold byE
  refine ⟨?_, by omega⟩
  rcases hab with q | q
  · have := sq_pp (x := I b - I a) (by omega); omega
  · have := sq_pp (x := J b - J a) (by omega); omega
theorem slE_b {n : Int} {I J V : Int → Int} (hR : FR n I J V) {a d e k : Int} (ha : 0 ≤ a ∧ a < n) (hk : 0 ≤ k ∧ k < n) (hd : -8 ≤ d ∧ d ≤ 8) (he : -8 ≤ e ∧ e ≤ 8) : -128 ≤ slE I J a d e k ∧ slE I J a d e k ≤ 128 := by
  have h1 := hR.2.2 a ha.1 ha.2
  have h2 := hR.2.2 k hk.1 hk.2
  have m1 := mb (a := I k - I a) (b := d) (A := 8) (B := 8) (by omega) (by omega) hd.1 hd.2
  have m2 := mb (a := J k - J a) (b := e) (A := 8) (B := 8) (by omega) (by omega) he.1 he.2
  unfold slE; omega
/-- the two comparisons say the same -/
theorem cmp_sc {A B s t s' t' g m : Int} (hg : 0 < g) (hm : 0 < m) (h1 : g * s = s') (h2 : g * t = t') : (A * (s * m) < B * (t * m) ↔ A * s' < B * t') := by
  subst h1 h2
  have e1 : m * (A * s) = A * (s * m) := by grind
  have e2 : m * (B * t) = B * (t * m) := by grind
  have e3 : g * (A * s) = A * (g * s) := by grind
  have e4 : g * (B * t) = B * (g * t) := by grind
  rw [← e1, ← e2, ← e3, ← e4]
  constructor
  · intro h; exact Int.mul_lt_mul_of_pos_left (Int.lt_of_mul_lt_mul_left h (Int.le_of_lt hm)) hg
  · intro h; exact Int.mul_lt_mul_of_pos_left (Int.lt_of_mul_lt_mul_left h (Int.le_of_lt hg)) hm
theorem BHM_lowA {z z2 : ZM} {n : Int} {I J V : Int → Int} {a b d e l g k : Int} (h : BHM z z2 n I J V a b d e l g) (hk : 0 ≤ k ∧ k < n) (hs : 0 < slE I J a d e k) : BHM (zput z 184 27 1) (zput (zput z2 184 29 (-(rsE I J V a b k))) 184 30 (slE I J a d e k * byE I J a b)) n I J V a b d e k g := by
  refine ⟨Or.inr ⟨hk.1, hk.2, hs, zput_at, by rw [zput_off (by decide), zput_at], zput_at⟩, ?_⟩
  rw [zput_off (by decide), zput_off (by decide), zput_off (by decide), zput_off (by decide), zput_off (by decide)]
  exact h.2
theorem BHM_lowB {z z2 : ZM} {n : Int} {I J V : Int → Int} {a b d e l g : Int} (h : BHM z z2 n I J V a b d e l g) (h0 : z 184 27 ≠ 0) : BHM (zput z 184 27 1) z2 n I J V a b d e l g := by
  refine ⟨?_, by rw [zput_off (by decide)]; exact h.2⟩
  rcases h.1 with ⟨-, q⟩ | ⟨q1, q2, q3, -, q4, q5⟩
  · exact absurd q h0
  · exact Or.inr ⟨q1, q2, q3, zput_at, q4, q5⟩
theorem BHM_highA {z z2 : ZM} {n : Int} {I J V : Int → Int} {a b d e l g k : Int} (h : BHM z z2 n I J V a b d e l g) (hk : 0 ≤ k ∧ k < n) (hs : slE I J a d e k < 0) : BHM (zput z 184 28 1) (zput (zput z2 184 31 (rsE I J V a b k)) 184 32 (-(slE I J a d e k) * byE I J a b)) n I J V a b d e l k := by
  refine ⟨?_, Or.inr ⟨hk.1, hk.2, hs, zput_at, by rw [zput_off (by decide), zput_at], zput_at⟩⟩
  rw [zput_off (by decide), zput_off (by decide), zput_off (by decide), zput_off (by decide), zput_off (by decide)]
  exact h.1
theorem BHM_highB {z z2 : ZM} {n : Int} {I J V : Int → Int} {a b d e l g : Int} (h : BHM z z2 n I J V a b d e l g) (h0 : z 184 28 ≠ 0) : BHM (zput z 184 28 1) z2 n I J V a b d e l g := by
  refine ⟨by rw [zput_off (by decide)]; exact h.1, ?_⟩
  rcases h.2 with ⟨-, q⟩ | ⟨q1, q2, q3, -, q4, q5⟩
  · exact absurd q h0
  · exact Or.inr ⟨q1, q2, q3, zput_at, q4, q5⟩
set_option maxHeartbeats 2000000 in
theorem v_bndLow {X : PX} {d : Nat} {S : SS} {zI zL : ZM} {Q : PQ} (hS : Sk S) {f s t d0 e0 p q y c u R w : Int} {y11 y12 : Option PV} {y17 y19 : Option PV} (bR : -102400 ≤ R ∧ R ≤ 102400) (bw : 0 < w ∧ w ≤ 128) (by1 : 1 ≤ y ∧ y ≤ 128) (h27 : zI 184 27 = 0 ∨ (zI 184 27 = 1 ∧ (-102400 ≤ zL 184 29 ∧ zL 184 29 ≤ 102400) ∧ 0 ≤ zL 184 30 ∧ zL 184 30 ≤ 16384))
    (hA : (zI 184 27 = 0 ∨ zL 184 29 * (w * y) < -R * zL 184 30) → ∀ y17 y19, Run X d c_M_bounds 206 [some (pR 184), some (pI f), some (pI s), some (pI t), some (pI d0), some (pI e0), some (pI p), some (pI q), some (pI y), some (pI c), some (pI u), y11, y12, some (pL R), none, some (pL w), none, y17, none, y19, none] [] S (zput zI 184 27 1) (zput (zput zL 184 29 (-R)) 184 30 (w * y)) 0 0 Q)
    (hB : (zI 184 27 ≠ 0 ∧ ¬ (zL 184 29 * (w * y) < -R * zL 184 30)) → ∀ y17 y19, Run X d c_M_bounds 206 [some (pR 184), some (pI f), some (pI s), some (pI t), some (pI d0), some (pI e0), some (pI p), some (pI q), some (pI y), some (pI c), some (pI u), y11, y12, some (pL R), none, some (pL w), none, y17, none, y19, none] [] S (zput zI 184 27 1) zL 0 0 Q) : Run X d c_M_bounds 133 [some (pR 184), some (pI f), some (pI s), some (pI t), some (pI d0), some (pI e0), some (pI p), some (pI q), some (pI y), some (pI c), some (pI u), y11, y12, some (pL R), none, some (pL w), none, y17, none, y19, none] [] S zI zL 0 0 Q := by
  have l0 : inL 0 := by unfold inL; omega
  have m4 := mb (a := w) (b := y) (A := 128) (B := 128) (by omega) (by omega) (by omega) (by omega)
  have lR : inL R := by unfold inL; omega
  have lw : inL w := by unfold inL; omega
  refine r_lload rfl rfl ?_
  refine r_lconst rfl ?_
  refine r_l_le rfl rfl lw l0 (fun h136 => ?_) (fun h136 => ?_)
  · skip
    exact absurd h136 (by omega)
  · skip
    refine r_lload rfl rfl ?_
    refine r_lneg rfl ?_
    refine r_goto rfl ?_
    refine r_lstore rfl (Nat.le_of_ble_eq_true rfl) ?_
    refine r_lload rfl rfl ?_
    refine r_lconst rfl ?_
    refine r_l_le rfl rfl lw l0 (fun h145 => ?_) (fun h145 => ?_)
    · skip
      exact absurd h145 (by omega)
    · skip
      refine r_lload rfl rfl ?_
      refine r_iload rfl rfl ?_
      refine r_i2l rfl (by unfold inI; omega) ?_
      refine r_lmul rfl ?_
      refine r_goto rfl ?_
      refine r_lstore rfl (Nat.le_of_ble_eq_true rfl) ?_
      refine r_lload rfl rfl ?_
      refine r_lconst rfl ?_
      refine r_l_le rfl rfl lw l0 (fun h160 => ?_) (fun h160 => ?_)
      · skip
        exact absurd h160 (by omega)
      · skip
        refine r_aload_n rfl rfl ?_
        refine r_getZ rfl (so184 hS) ?_
        refine r_if_eq rfl (by unfold inI; omega) (fun h163 => ?_) (fun h163 => ?_)
        · skip
          refine r_aload_n rfl rfl ?_
          refine r_lload rfl rfl ?_
          refine r_putL rfl (so184 hS) ?_
          refine r_aload_n rfl rfl ?_
          refine r_lload rfl rfl ?_
          refine r_putL rfl (so184 hS) ?_
          refine r_aload_n rfl rfl ?_
          refine r_iconst rfl ?_
          refine r_putZ rfl (so184 hS) (by first | exact Or.inl rfl | exact Or.inr rfl | assumption) ?_
          refine r_goto rfl ?_
          exact hA (Or.inl h163) _ _
        · skip
          have hh : (-102400 ≤ zL 184 29 ∧ zL 184 29 ≤ 102400) ∧ 0 ≤ zL 184 30 ∧ zL 184 30 ≤ 16384 := by rcases h27 with k | ⟨-, k⟩; exact absurd k h163; exact k
          have m5 := mb (a := -R) (b := zL 184 30) (A := 102400) (B := 16384) (by omega) (by omega) (by omega) (by omega)
          have m6 := mb (a := zL 184 29) (b := w * y) (A := 102400) (B := 16384) (by omega) (by omega) (by omega) (by omega)
          refine r_lload rfl rfl ?_
          refine r_aload_n rfl rfl ?_
          refine r_getL rfl (so184 hS) ?_
          refine r_lmul rfl ?_
          refine r_aload_n rfl rfl ?_
          refine r_getL rfl (so184 hS) ?_
          refine r_lload rfl rfl ?_
          refine r_lmul rfl ?_
          refine r_l_le rfl rfl (by unfold inL; omega) (by unfold inL; omega) (fun h173 => ?_) (fun h173 => ?_)
          · skip
            refine r_aload_n rfl rfl ?_
            refine r_iconst rfl ?_
            refine r_putZ rfl (so184 hS) (by first | exact Or.inl rfl | exact Or.inr rfl | assumption) ?_
            refine r_goto rfl ?_
            exact hB ⟨h163, by omega⟩ _ _
          · skip
            refine r_aload_n rfl rfl ?_
            refine r_lload rfl rfl ?_
            refine r_putL rfl (so184 hS) ?_
            refine r_aload_n rfl rfl ?_
            refine r_lload rfl rfl ?_
            refine r_putL rfl (so184 hS) ?_
            refine r_aload_n rfl rfl ?_
            refine r_iconst rfl ?_
            refine r_putZ rfl (so184 hS) (by first | exact Or.inl rfl | exact Or.inr rfl | assumption) ?_
            refine r_goto rfl ?_
            exact hA (Or.inr (by omega)) _ _
set_option maxHeartbeats 2000000 in
theorem v_bndHigh {X : PX} {d : Nat} {S : SS} {zI zL : ZM} {Q : PQ} (hS : Sk S) {f s t d0 e0 p q y c u R w : Int} {y11 y12 : Option PV} {y17 y19 : Option PV} (bR : -102400 ≤ R ∧ R ≤ 102400) (bw : -128 ≤ w ∧ w < 0) (by1 : 1 ≤ y ∧ y ≤ 128) (h28 : zI 184 28 = 0 ∨ (zI 184 28 = 1 ∧ (-102400 ≤ zL 184 31 ∧ zL 184 31 ≤ 102400) ∧ 0 ≤ zL 184 32 ∧ zL 184 32 ≤ 16384))
    (hA : (zI 184 28 = 0 ∨ R * zL 184 32 < zL 184 31 * (-w * y)) → ∀ y17 y19, Run X d c_M_bounds 206 [some (pR 184), some (pI f), some (pI s), some (pI t), some (pI d0), some (pI e0), some (pI p), some (pI q), some (pI y), some (pI c), some (pI u), y11, y12, some (pL R), none, some (pL w), none, y17, none, y19, none] [] S (zput zI 184 28 1) (zput (zput zL 184 31 R) 184 32 (-w * y)) 0 0 Q)
    (hB : (zI 184 28 ≠ 0 ∧ ¬ (R * zL 184 32 < zL 184 31 * (-w * y))) → ∀ y17 y19, Run X d c_M_bounds 206 [some (pR 184), some (pI f), some (pI s), some (pI t), some (pI d0), some (pI e0), some (pI p), some (pI q), some (pI y), some (pI c), some (pI u), y11, y12, some (pL R), none, some (pL w), none, y17, none, y19, none] [] S (zput zI 184 28 1) zL 0 0 Q) : Run X d c_M_bounds 133 [some (pR 184), some (pI f), some (pI s), some (pI t), some (pI d0), some (pI e0), some (pI p), some (pI q), some (pI y), some (pI c), some (pI u), y11, y12, some (pL R), none, some (pL w), none, y17, none, y19, none] [] S zI zL 0 0 Q := by
  have l0 : inL 0 := by unfold inL; omega
  have m4 := mb (a := -w) (b := y) (A := 128) (B := 128) (by omega) (by omega) (by omega) (by omega)
  have lR : inL R := by unfold inL; omega
  have lw : inL w := by unfold inL; omega
  refine r_lload rfl rfl ?_
  refine r_lconst rfl ?_
  refine r_l_le rfl rfl lw l0 (fun h136 => ?_) (fun h136 => ?_)
  · skip
    refine r_lload rfl rfl ?_
    refine r_lstore rfl (Nat.le_of_ble_eq_true rfl) ?_
    refine r_lload rfl rfl ?_
    refine r_lconst rfl ?_
    refine r_l_le rfl rfl lw l0 (fun h145 => ?_) (fun h145 => ?_)
    · skip
      refine r_lload rfl rfl ?_
      refine r_lneg rfl ?_
      refine r_iload rfl rfl ?_
      refine r_i2l rfl (by unfold inI; omega) ?_
      refine r_lmul rfl ?_
      refine r_lstore rfl (Nat.le_of_ble_eq_true rfl) ?_
      refine r_lload rfl rfl ?_
      refine r_lconst rfl ?_
      refine r_l_le rfl rfl lw l0 (fun h160 => ?_) (fun h160 => ?_)
      · skip
        refine r_aload_n rfl rfl ?_
        refine r_getZ rfl (so184 hS) ?_
        refine r_if_eq rfl (by unfold inI; omega) (fun h186 => ?_) (fun h186 => ?_)
        · skip
          refine r_aload_n rfl rfl ?_
          refine r_lload rfl rfl ?_
          refine r_putL rfl (so184 hS) ?_
          refine r_aload_n rfl rfl ?_
          refine r_lload rfl rfl ?_
          refine r_putL rfl (so184 hS) ?_
          refine r_aload_n rfl rfl ?_
          refine r_iconst rfl ?_
          refine r_putZ rfl (so184 hS) (by first | exact Or.inl rfl | exact Or.inr rfl | assumption) ?_
          exact hA (Or.inl h186) _ _
        · skip
          have hh : (-102400 ≤ zL 184 31 ∧ zL 184 31 ≤ 102400) ∧ 0 ≤ zL 184 32 ∧ zL 184 32 ≤ 16384 := by rcases h28 with k | ⟨-, k⟩; exact absurd k h186; exact k
          have m5 := mb (a := R) (b := zL 184 32) (A := 102400) (B := 16384) (by omega) (by omega) (by omega) (by omega)
          have m6 := mb (a := zL 184 31) (b := -w * y) (A := 102400) (B := 16384) (by omega) (by omega) (by omega) (by omega)
          refine r_lload rfl rfl ?_
          refine r_aload_n rfl rfl ?_
          refine r_getL rfl (so184 hS) ?_
          refine r_lmul rfl ?_
          refine r_aload_n rfl rfl ?_
          refine r_getL rfl (so184 hS) ?_
          refine r_lload rfl rfl ?_
          refine r_lmul rfl ?_
          refine r_l_ge rfl rfl (by unfold inL; omega) (by unfold inL; omega) (fun h196 => ?_) (fun h196 => ?_)
          · skip
            refine r_aload_n rfl rfl ?_
            refine r_iconst rfl ?_
            refine r_putZ rfl (so184 hS) (by first | exact Or.inl rfl | exact Or.inr rfl | assumption) ?_
            exact hB ⟨h186, by omega⟩ _ _
          · skip
            refine r_aload_n rfl rfl ?_
            refine r_lload rfl rfl ?_
            refine r_putL rfl (so184 hS) ?_
            refine r_aload_n rfl rfl ?_
            refine r_lload rfl rfl ?_
            refine r_putL rfl (so184 hS) ?_
            refine r_aload_n rfl rfl ?_
            refine r_iconst rfl ?_
            refine r_putZ rfl (so184 hS) (by first | exact Or.inl rfl | exact Or.inr rfl | assumption) ?_
            exact hA (Or.inr (by omega)) _ _
      · skip
        exact absurd h160 (by omega)
    · skip
      exact absurd h145 (by omega)
  · skip
    exact absurd h136 (by omega)
theorem rs_eq (I J V : Int → Int) (a b k : Int) : (V k - V a) * byE I J a b - (V b - V a) * ((I k - I a) * (I b - I a) + (J k - J a) * (J b - J a)) = rsE I J V a b k := by unfold rsE byE; grind
theorem neg_sl {g s t : Int} (h : g * s = t) : g * -s = -t := by rw [← h]; grind
/-- the numbers that the fields hold are small -/
theorem BHM_b {n : Int} {I J V : Int → Int} (hR : FR n I J V) {z z2 : ZM} {a b d e l g : Int} (ha : 0 ≤ a ∧ a < n) (hb : 0 ≤ b ∧ b < n) (hab : I b ≠ I a ∨ J b ≠ J a) (bd : -8 ≤ d ∧ d ≤ 8) (be : -8 ≤ e ∧ e ≤ 8) (h : BHM z z2 n I J V a b d e l g) :
    (z 184 27 = 0 ∨ (z 184 27 = 1 ∧ (-102400 ≤ z2 184 29 ∧ z2 184 29 ≤ 102400) ∧ 0 ≤ z2 184 30 ∧ z2 184 30 ≤ 16384)) ∧ (z 184 28 = 0 ∨ (z 184 28 = 1 ∧ (-102400 ≤ z2 184 31 ∧ z2 184 31 ≤ 102400) ∧ 0 ≤ z2 184 32 ∧ z2 184 32 ≤ 16384)) := by
  have byb := byE_b hR ha hb hab
  refine ⟨?_, ?_⟩
  · rcases h.1 with ⟨-, q⟩ | ⟨q1, q2, q3, q, q4, q5⟩
    · exact Or.inl q
    · have rl := rsE_b hR ha hb ⟨q1, q2⟩
      have sl := slE_b hR ha ⟨q1, q2⟩ bd be
      have m1 := mb (a := slE I J a d e l) (b := byE I J a b) (A := 128) (B := 128) (by omega) (by omega) (by omega) (by omega)
      have m2 := Int.mul_nonneg (Int.le_of_lt q3) (show 0 ≤ byE I J a b by omega)
      refine Or.inr ⟨q, ?_, ?_⟩
      · rw [q4]; omega
      · rw [q5]; omega
  · rcases h.2 with ⟨-, q⟩ | ⟨q1, q2, q3, q, q4, q5⟩
    · exact Or.inl q
    · have rl := rsE_b hR ha hb ⟨q1, q2⟩
      have sl := slE_b hR ha ⟨q1, q2⟩ bd be
      have m1 := mb (a := -(slE I J a d e g)) (b := byE I J a b) (A := 128) (B := 128) (by omega) (by omega) (by omega) (by omega)
      have m2 := Int.mul_nonneg (show 0 ≤ -(slE I J a d e g) by omega) (show 0 ≤ byE I J a b by omega)
      refine Or.inr ⟨q, ?_, ?_⟩
      · rw [q4]; omega
      · rw [q5]; omega
/-- a term to the left, taken in -/
theorem BHM_low {n : Int} {I J V : Int → Int} (hR : FR n I J V) {z z2 : ZM} {a b d e l g g0 k : Int} (ha : 0 ≤ a ∧ a < n) (hb : 0 ≤ b ∧ b < n) (hab : I b ≠ I a ∨ J b ≠ J a) (hg : 0 < g0) (slg : ∀ k, g0 * slE I J a d e k = trE I J a b k) (hk : 0 ≤ k ∧ k < n) (hs : 0 < slE I J a d e k) (h : BHM z z2 n I J V a b d e l g) :
    ((z 184 27 = 0 ∨ z2 184 29 * (slE I J a d e k * byE I J a b) < -(rsE I J V a b k) * z2 184 30) → BHM (zput z 184 27 1) (zput (zput z2 184 29 (-(rsE I J V a b k))) 184 30 (slE I J a d e k * byE I J a b)) n I J V a b d e (stL I J V a b l k) (stG I J V a b g k)) ∧
    ((z 184 27 ≠ 0 ∧ ¬ (z2 184 29 * (slE I J a d e k * byE I J a b) < -(rsE I J V a b k) * z2 184 30)) → BHM (zput z 184 27 1) z2 n I J V a b d e (stL I J V a b l k) (stG I J V a b g k)) := by
  have byb := byE_b hR ha hb hab
  have ht : 0 < trE I J a b k := (sgn_g hg (slg k)).1.mp hs
  have hL : stL I J V a b l k = lwU I J V a b l k := by unfold stL; rw [if_pos ht]
  have hG : stG I J V a b g k = g := by unfold stG; rw [if_neg (by omega)]
  rw [hL, hG]
  have cs : z 184 27 = 1 → 0 ≤ l → z2 184 29 = -(rsE I J V a b l) → z2 184 30 = slE I J a d e l * byE I J a b → (z2 184 29 * (slE I J a d e k * byE I J a b) < -(rsE I J V a b k) * z2 184 30 ↔ -(rsE I J V a b l) * trE I J a b k < -(rsE I J V a b k) * trE I J a b l) := by
    intro _ _ e1 e2
    rw [e1, e2]
    exact cmp_sc hg (by omega) (slg k) (slg l)
  refine ⟨fun c => ?_, fun c => ?_⟩
  · have : lwU I J V a b l k = k := by
      unfold lwU
      rw [if_pos]
      rcases h.1 with ⟨q, -⟩ | ⟨q1, q2, q3, q, q4, q5⟩
      · exact Or.inl q
      · rcases c with c | c
        · omega
        · exact Or.inr ((cs q q1 q4 q5).mp c)
    rw [this]
    exact BHM_lowA h hk hs
  · have : lwU I J V a b l k = l := by
      unfold lwU
      rw [if_neg]
      rcases h.1 with ⟨-, q⟩ | ⟨q1, q2, q3, q, q4, q5⟩
      · exact absurd q c.1
      · rintro (k1 | k1)
        · omega
        · exact c.2 ((cs q q1 q4 q5).mpr k1)
    rw [this]
    exact BHM_lowB h c.1
theorem BHM_high {n : Int} {I J V : Int → Int} (hR : FR n I J V) {z z2 : ZM} {a b d e l g g0 k : Int} (ha : 0 ≤ a ∧ a < n) (hb : 0 ≤ b ∧ b < n) (hab : I b ≠ I a ∨ J b ≠ J a) (hg : 0 < g0) (slg : ∀ k, g0 * slE I J a d e k = trE I J a b k) (hk : 0 ≤ k ∧ k < n) (hs : slE I J a d e k < 0) (h : BHM z z2 n I J V a b d e l g) :
    ((z 184 28 = 0 ∨ rsE I J V a b k * z2 184 32 < z2 184 31 * (-(slE I J a d e k) * byE I J a b)) → BHM (zput z 184 28 1) (zput (zput z2 184 31 (rsE I J V a b k)) 184 32 (-(slE I J a d e k) * byE I J a b)) n I J V a b d e (stL I J V a b l k) (stG I J V a b g k)) ∧
    ((z 184 28 ≠ 0 ∧ ¬ (rsE I J V a b k * z2 184 32 < z2 184 31 * (-(slE I J a d e k) * byE I J a b))) → BHM (zput z 184 28 1) z2 n I J V a b d e (stL I J V a b l k) (stG I J V a b g k)) := by
  have byb := byE_b hR ha hb hab
  have ht : trE I J a b k < 0 := (sgn_g hg (slg k)).2.2.mp hs
  have hL : stL I J V a b l k = l := by unfold stL; rw [if_neg (by omega)]
  have hG : stG I J V a b g k = hgU I J V a b g k := by unfold stG; rw [if_pos ht]
  rw [hL, hG]
  have cs : z 184 28 = 1 → 0 ≤ g → z2 184 31 = rsE I J V a b g → z2 184 32 = -(slE I J a d e g) * byE I J a b → (rsE I J V a b k * z2 184 32 < z2 184 31 * (-(slE I J a d e k) * byE I J a b) ↔ rsE I J V a b k * -(trE I J a b g) < rsE I J V a b g * -(trE I J a b k)) := by
    intro _ _ e1 e2
    rw [e1, e2]
    exact cmp_sc hg (by omega) (neg_sl (slg g)) (neg_sl (slg k))
  refine ⟨fun c => ?_, fun c => ?_⟩
  · have : hgU I J V a b g k = k := by
      unfold hgU
      rw [if_pos]
      rcases h.2 with ⟨q, -⟩ | ⟨q1, q2, q3, q, q4, q5⟩
      · exact Or.inl q
      · rcases c with c | c
        · omega
        · exact Or.inr ((cs q q1 q4 q5).mp c)
    rw [this]
    exact BHM_highA h hk hs
  · have : hgU I J V a b g k = g := by
      unfold hgU
      rw [if_neg]
      rcases h.2 with ⟨-, q⟩ | ⟨q1, q2, q3, q, q4, q5⟩
      · exact absurd q c.1
      · rintro (k1 | k1)
        · omega
        · exact c.2 ((cs q q1 q4 q5).mpr k1)
    rw [this]
    exact BHM_highB h c.1
set_option maxHeartbeats 2000000 in
theorem v_bndFin {X : PX} {d : Nat} {S : SS} {zI zL : ZM} {Q : PQ} (hS : Sk S) {n : Int} {I J V : Int → Int} (hR : FR n I J V) {f u : Int} {y11 y12 y13 y15 y17 y19 : Option PV} {a b s t d0 e0 g0 : Int} (ha : 0 ≤ a ∧ a < n) (hb : 0 ≤ b ∧ b < n) (hab : I b ≠ I a ∨ J b ≠ J a) (hg : 0 < g0) (hd : g0 * d0 = -(J b - J a)) (he : g0 * e0 = I b - I a) (bd : -8 ≤ d0 ∧ d0 ≤ 8) (be : -8 ≤ e0 ∧ e0 ≤ 8) {l g : Int} (hB : BHM zI zL n I J V a b d0 e0 l g) (hQ0 : emE I J V a b l g → Q (some (pI 0)) S zI zL) (hQ1 : ¬ emE I J V a b l g → Q (some (pI 1)) S zI zL) : Run X d c_M_bounds 208 [some (pR 184), some (pI f), some (pI s), some (pI t), some (pI d0), some (pI e0), some (pI (I b - I a)), some (pI (J b - J a)), some (pI (byE I J a b)), some (pI (V b - V a)), some (pI u), y11, y12, y13, none, y15, none, y17, none, y19, none] [] S zI zL 0 0 Q := by
  have slg := fun k => slE_g (k := k) hd he
  obtain ⟨b27, b28⟩ := BHM_b hR ha hb hab bd be hB
  have byb := byE_b hR ha hb hab
  clear hd he bd be hab
  refine r_aload_n rfl rfl ?_
  refine r_getZ rfl (so184 hS) ?_
  refine r_if_eq rfl (by unfold inI; omega) (fun h210 => ?_) (fun h210 => ?_)
  · skip
    refine r_iconst rfl ?_
    refine r_goto rfl ?_
    refine r_zret rfl (by first | exact Or.inl rfl | exact Or.inr rfl | assumption) ?_
    exact hQ1 (fun q => by rcases hB.1 with ⟨e, -⟩ | ⟨-, -, -, e, -⟩; exact q.1 e; rw [e] at h210; exact absurd h210 (by decide))
  · skip
    refine r_aload_n rfl rfl ?_
    refine r_getZ rfl (so184 hS) ?_
    refine r_if_eq rfl (by unfold inI; omega) (fun h213 => ?_) (fun h213 => ?_)
    · skip
      refine r_iconst rfl ?_
      refine r_goto rfl ?_
      refine r_zret rfl (by first | exact Or.inl rfl | exact Or.inr rfl | assumption) ?_
      exact hQ1 (fun q => by rcases hB.2 with ⟨e, -⟩ | ⟨-, -, -, e, -⟩; exact q.2.1 e; rw [e] at h213; exact absurd h213 (by decide))
    · skip
      have hl : 0 ≤ l ∧ 0 < slE I J a d0 e0 l ∧ zL 184 29 = -(rsE I J V a b l) ∧ zL 184 30 = slE I J a d0 e0 l * byE I J a b := by
        rcases hB.1 with ⟨-, q⟩ | ⟨q1, q2, q3, -, q4, q5⟩
        · exact absurd q h210
        · exact ⟨q1, q3, q4, q5⟩
      have hgg : 0 ≤ g ∧ slE I J a d0 e0 g < 0 ∧ zL 184 31 = rsE I J V a b g ∧ zL 184 32 = -(slE I J a d0 e0 g) * byE I J a b := by
        rcases hB.2 with ⟨-, q⟩ | ⟨q1, q2, q3, -, q4, q5⟩
        · exact absurd q h213
        · exact ⟨q1, q3, q4, q5⟩
      have c27 : (-102400 ≤ zL 184 29 ∧ zL 184 29 ≤ 102400) ∧ 0 ≤ zL 184 30 ∧ zL 184 30 ≤ 16384 := by rcases b27 with q | ⟨-, q⟩; exact absurd q h210; exact q
      have c28 : (-102400 ≤ zL 184 31 ∧ zL 184 31 ≤ 102400) ∧ 0 ≤ zL 184 32 ∧ zL 184 32 ≤ 16384 := by rcases b28 with q | ⟨-, q⟩; exact absurd q h213; exact q
      have cs : zL 184 29 * zL 184 32 < zL 184 31 * zL 184 30 ↔ -(rsE I J V a b l) * -(trE I J a b g) < rsE I J V a b g * trE I J a b l := by
        rw [hl.2.2.1, hl.2.2.2, hgg.2.2.1, hgg.2.2.2]
        exact cmp_sc hg (by omega) (neg_sl (slg g)) (slg l)
      have m3 := mb (a := zL 184 29) (b := zL 184 32) (A := 102400) (B := 16384) (by omega) (by omega) (by omega) (by omega)
      have m4 := mb (a := zL 184 31) (b := zL 184 30) (A := 102400) (B := 16384) (by omega) (by omega) (by omega) (by omega)
      clear b27 b28 slg
      refine r_aload_n rfl rfl ?_
      refine r_getL rfl (so184 hS) ?_
      refine r_aload_n rfl rfl ?_
      refine r_getL rfl (so184 hS) ?_
      refine r_lmul rfl ?_
      refine r_aload_n rfl rfl ?_
      refine r_getL rfl (so184 hS) ?_
      refine r_aload_n rfl rfl ?_
      refine r_getL rfl (so184 hS) ?_
      refine r_lmul rfl ?_
      refine r_l_ge rfl rfl (by unfold inL; omega) (by unfold inL; omega) (fun h225 => ?_) (fun h225 => ?_)
      · skip
        refine r_iconst rfl ?_
        refine r_zret rfl (by first | exact Or.inl rfl | exact Or.inr rfl | assumption) ?_
        exact hQ0 ⟨by omega, by omega, Int.not_lt.mp (fun q => absurd (cs.mpr q) (by omega))⟩
      · skip
        refine r_iconst rfl ?_
        refine r_goto rfl ?_
        refine r_zret rfl (by first | exact Or.inl rfl | exact Or.inr rfl | assumption) ?_
        exact hQ1 (fun q => absurd (cs.mp h225) (Int.not_lt.mpr q.2.2))
set_option maxHeartbeats 4000000 in
theorem x_bounds {X : PX} {d : Nat} {S : SS} {zI zL : ZM} {Q : PQ} (hS : Sk S) {f n : Int} {I J V : Int → Int} (hf : 0 ≤ f ∧ f ≤ 10) (hT : FM zI f n I J V) (hR : FR n I J V) {a b s t d0 e0 g0 : Int} (ha : 0 ≤ a ∧ a < n) (hb : 0 ≤ b ∧ b < n) (hab : I b ≠ I a ∨ J b ≠ J a) (hs : s = 40 * f + a) (ht : t = 40 * f + b) (hg : 0 < g0) (hd : g0 * d0 = -(J b - J a)) (he : g0 * e0 = I b - I a) (bd : -8 ≤ d0 ∧ d0 ≤ 8) (be : -8 ≤ e0 ∧ e0 ≤ 8) (hQ0 : stF n I J V a b = none → ∀ z z2, frB z zI → frBL z2 zL → Q (some (pI 0)) S z z2) (hQ1 : ∀ l g, stF n I J V a b = some (l, g) → ∀ z z2, frB z zI → frBL z2 zL → BHM z z2 n I J V a b d0 e0 l g → Q (some (pI 1)) S z z2) : wpM X (d + 1) fM_bounds [pR 184, pI f, pI s, pI t, pI d0, pI e0] S zI zL Q := by
  have hT0 := hT
  have hR0 := hR
  obtain ⟨e4, hel⟩ := hT
  obtain ⟨hn0, hn40, hrg⟩ := hR
  have l0 : inL 0 := by unfold inL; omega
  obtain ⟨ga1, ga2, ga3⟩ := hel a ha.1 ha.2
  obtain ⟨gb1, gb2, gb3⟩ := hel b hb.1 hb.2
  rw [← hs] at ga1 ga2 ga3
  rw [← ht] at gb1 gb2 gb3
  have byb := byE_b hR0 ha hb hab
  have slg := fun k => slE_g (k := k) hd he
  have i0 : ∀ k, 0 ≤ k → k < n → 0 ≤ 40 * f + k ∧ 40 * f + k < 440 := fun k k0 k1 => by omega
  have ia := i0 a ha.1 ha.2
  have ib := i0 b hb.1 hb.2
  rw [← hs] at ia
  rw [← ht] at ib
  have key : ∀ k : Int, k ≤ n → 0 ≤ k → ∀ (z z2 : ZM) (l g u : Int) (y11 y12 y13 y15 y17 y19 : Option PV), u = 40 * f + k → frB z zI → frBL z2 zL → BHM z z2 n I J V a b d0 e0 l g → sbW I J V a b (n - k).toNat k l g = sbW I J V a b n.toNat 0 (-1) (-1) → Run X d c_M_bounds 48 [some (pR 184), some (pI f), some (pI s), some (pI t), some (pI d0), some (pI e0), some (pI (I b - I a)), some (pI (J b - J a)), some (pI (byE I J a b)), some (pI (V b - V a)), some (pI u), y11, y12, y13, none, y15, none, y17, none, y19, none] [] S z z2 0 0 Q := by
    refine loop_up _ n (fun k hk ih h0 z z2 l g u y11 y12 y13 y15 y17 y19 hu hz hz2 hB hst => ?_)
    have e4z : z 186 f = n := by rw [hz.1 186 (by decide)]; exact e4
    have nx : k < n → ¬ bdE I J V a b k → ∀ (z z2 : ZM) (y11 y12 y13 y15 y17 y19 : Option PV), frB z zI → frBL z2 zL → BHM z z2 n I J V a b d0 e0 (stL I J V a b l k) (stG I J V a b g k) → Run X d c_M_bounds 206 [some (pR 184), some (pI f), some (pI s), some (pI t), some (pI d0), some (pI e0), some (pI (I b - I a)), some (pI (J b - J a)), some (pI (byE I J a b)), some (pI (V b - V a)), some (pI u), y11, y12, y13, none, y15, none, y17, none, y19, none] [] S z z2 0 0 Q := by
      intro hkn hbd z z2 y11 y12 y13 y15 y17 y19 hz hz2 hB
      rw [sbW_s hkn, if_neg hbd] at hst
      refine r_iinc rfl rfl ?_
      refine r_goto rfl ?_
      exact ih hkn (by omega) z z2 _ _ _ _ _ _ _ _ _ (by omega) hz hz2 hB hst
    have body : k < n → ∀ R w : Int, R = rsE I J V a b k → w = slE I J a d0 e0 k → ∀ y11 y12 y17 y19 : Option PV, Run X d c_M_bounds 113 [some (pR 184), some (pI f), some (pI s), some (pI t), some (pI d0), some (pI e0), some (pI (I b - I a)), some (pI (J b - J a)), some (pI (byE I J a b)), some (pI (V b - V a)), some (pI u), y11, y12, some (pL R), none, some (pL w), none, y17, none, y19, none] [] S z z2 0 0 Q := by
      intro hkn R w hR1 hw1 y11 y12 y17 y19
      have rsb := rsE_b hR0 ha hb ⟨h0, hkn⟩
      have slb := slE_b hR0 ha ⟨h0, hkn⟩ bd be
      have sk := sgn_g hg (slg k)
      rw [← hR1] at rsb
      rw [← hw1] at slb sk
      obtain ⟨b27, b28⟩ := BHM_b hR0 ha hb hab bd be hB
      have lw : inL w := by unfold inL; omega
      have lR : inL R := by unfold inL; omega
      refine r_lload rfl rfl ?_
      refine r_lconst rfl ?_
      refine r_l_ne rfl rfl lw l0 (fun h116 => ?_) (fun h116 => ?_)
      · skip
        by_cases hpos : 0 < w
        · have hbd : ¬ bdE I J V a b k := fun q => by have := q.1; omega
          have lw := BHM_low hR0 ha hb hab hg slg ⟨h0, hkn⟩ (by rw [← hw1]; exact hpos) hB
          rw [← hR1, ← hw1] at lw
          exact v_bndLow hS rsb ⟨hpos, slb.2⟩ byb b27 (fun c y17 y19 => nx hkn hbd _ _ _ _ _ _ _ _ (frB_p hz (Or.inl rfl)) (frBL_p (frBL_p hz2 (by decide)) (by decide)) (lw.1 c)) (fun c y17 y19 => nx hkn hbd _ _ _ _ _ _ _ _ (frB_p hz (Or.inl rfl)) hz2 (lw.2 c))
        · have hneg : w < 0 := by omega
          have hbd : ¬ bdE I J V a b k := fun q => by have := q.1; omega
          have lw := BHM_high hR0 ha hb hab hg slg ⟨h0, hkn⟩ (by rw [← hw1]; exact hneg) hB
          rw [← hR1, ← hw1] at lw
          exact v_bndHigh hS rsb ⟨slb.1, hneg⟩ byb b28 (fun c y17 y19 => nx hkn hbd _ _ _ _ _ _ _ _ (frB_p hz (Or.inr rfl)) (frBL_p (frBL_p hz2 (by decide)) (by decide)) (lw.1 c)) (fun c y17 y19 => nx hkn hbd _ _ _ _ _ _ _ _ (frB_p hz (Or.inr rfl)) hz2 (lw.2 c))
      · skip
        refine r_lload rfl rfl ?_
        refine r_lconst rfl ?_
        refine r_l_lt rfl rfl lR l0 (fun h120 => ?_) (fun h120 => ?_)
        · skip
          have hbd : bdE I J V a b k := ⟨sk.2.1.mp (by omega), by rw [← hR1]; omega⟩
          refine r_iconst rfl ?_
          refine r_zret rfl (by first | exact Or.inl rfl | exact Or.inr rfl | assumption) ?_
          rw [sbW_s hkn, if_pos hbd] at hst
          exact hQ0 (by rw [stF_N, ← hst]; rfl) z z2 hz hz2
        · skip
          refine r_lload rfl rfl ?_
          refine r_lconst rfl ?_
          refine r_l_ne rfl rfl lR l0 (fun h124 => ?_) (fun h124 => ?_)
          · skip
            have hl1 : stL I J V a b l k = l := by unfold stL; rw [if_neg (by omega)]
            have hg1 : stG I J V a b g k = g := by unfold stG; rw [if_neg (by omega)]
            exact nx hkn (fun q => by have := q.2; rw [← hR1] at this; omega) z z2 _ _ _ _ _ _ hz hz2 (by rw [hl1, hg1]; exact hB)
          · skip
            refine r_iload rfl rfl ?_
            refine r_iload_n rfl rfl ?_
            refine r_icmp_lt rfl (by unfold inI; omega) (by unfold inI; omega) (fun h127 => ?_) (fun h127 => ?_)
            · skip
              have hbd : bdE I J V a b k := ⟨sk.2.1.mp (by omega), by rw [← hR1]; omega⟩
              refine r_iconst rfl ?_
              refine r_zret rfl (by first | exact Or.inl rfl | exact Or.inr rfl | assumption) ?_
              rw [sbW_s hkn, if_pos hbd] at hst
              exact hQ0 (by rw [stF_N, ← hst]; rfl) z z2 hz hz2
            · skip
              refine r_iload rfl rfl ?_
              refine r_iload_n rfl rfl ?_
              refine r_icmp_le rfl (by unfold inI; omega) (by unfold inI; omega) (fun h130 => ?_) (fun h130 => ?_)
              · skip
                have hl1 : stL I J V a b l k = l := by unfold stL; rw [if_neg (by omega)]
                have hg1 : stG I J V a b g k = g := by unfold stG; rw [if_neg (by omega)]
                exact nx hkn (fun q => by have := q.2; rw [← hR1] at this; omega) z z2 _ _ _ _ _ _ hz hz2 (by rw [hl1, hg1]; exact hB)
              · skip
                have hbd : bdE I J V a b k := ⟨sk.2.1.mp (by omega), by rw [← hR1]; omega⟩
                refine r_iconst rfl ?_
                refine r_zret rfl (by first | exact Or.inl rfl | exact Or.inr rfl | assumption) ?_
                rw [sbW_s hkn, if_pos hbd] at hst
                exact hQ0 (by rw [stF_N, ← hst]; rfl) z z2 hz hz2
    refine r_iload rfl rfl ?_
    refine r_bipush rfl ?_
    refine r_iload_n rfl rfl ?_
    refine r_imul rfl ?_
    refine r_aload_n rfl rfl ?_
    refine r_getR rfl (so184 hS) (sr184_2 hS) ?_
    refine r_iload_n rfl rfl ?_
    refine r_iald rfl (sw186 hS) (by omega) (by omega) ?_
    rw [e4z]
    refine r_iadd rfl ?_
    refine r_icmp_ge rfl (by unfold inI; omega) (by unfold inI; omega) (fun h57 => ?_) (fun h57 => ?_)
    · skip
      have hN : sbW I J V a b n.toNat 0 (-1) (-1) = some (l, g) := by rw [sbW_e (by omega)] at hst; exact hst.symm
      have hF := stF_N n I J V a b
      rw [hN] at hF
      have hF2 : stF n I J V a b = if emE I J V a b l g then none else some (l, g) := hF
      exact v_bndFin hS hR0 ha hb hab hg hd he bd be hB (fun q => hQ0 (by rw [hF2, if_pos q]) z z2 hz hz2) (fun q => hQ1 l g (by rw [hF2, if_neg q]) z z2 hz hz2 hB)
    · skip
      have hkn : k < n := by omega
      obtain ⟨g1, g2, g3⟩ := hel k h0 hkn
      have rk := hrg k h0 hkn
      have ra := hrg a ha.1 ha.2
      have rb := hrg b hb.1 hb.2
      rw [← hu, ← hz.1 187 (by decide)] at g1
      rw [← hu, ← hz.1 188 (by decide)] at g2
      rw [← hu, ← hz.1 189 (by decide)] at g3
      have a1 : z 187 s = I a := by rw [hz.1 187 (by decide)]; exact ga1
      have a2 : z 188 s = J a := by rw [hz.1 188 (by decide)]; exact ga2
      have a3 : z 189 s = V a := by rw [hz.1 189 (by decide)]; exact ga3
      have slb := slE_b hR0 ha ⟨h0, hkn⟩ bd be
      have hbody := body hkn _ _ rfl rfl
      have m1 := mb (a := I k - I a) (b := I b - I a) (A := 8) (B := 8) (by omega) (by omega) (by omega) (by omega)
      have m2 := mb (a := J k - J a) (b := J b - J a) (A := 8) (B := 8) (by omega) (by omega) (by omega) (by omega)
      have iu := i0 k h0 hkn
      rw [← hu] at iu
      clear ih nx body hd he hab
      refine r_aload_n rfl rfl ?_
      refine r_getR rfl (so184 hS) (sr184_3 hS) ?_
      refine r_iload rfl rfl ?_
      refine r_iald rfl (sw187 hS) (by omega) (by omega) ?_
      rw [g1]
      refine r_aload_n rfl rfl ?_
      refine r_getR rfl (so184 hS) (sr184_3 hS) ?_
      refine r_iload_n rfl rfl ?_
      refine r_iald rfl (sw187 hS) (by omega) (by omega) ?_
      rw [a1]
      refine r_isub rfl ?_
      refine r_istore rfl (Nat.le_of_ble_eq_true rfl) ?_
      refine r_aload_n rfl rfl ?_
      refine r_getR rfl (so184 hS) (sr184_4 hS) ?_
      refine r_iload rfl rfl ?_
      refine r_iald rfl (sw188 hS) (by omega) (by omega) ?_
      rw [g2]
      refine r_aload_n rfl rfl ?_
      refine r_getR rfl (so184 hS) (sr184_4 hS) ?_
      refine r_iload_n rfl rfl ?_
      refine r_iald rfl (sw188 hS) (by omega) (by omega) ?_
      rw [a2]
      refine r_isub rfl ?_
      refine r_istore rfl (Nat.le_of_ble_eq_true rfl) ?_
      refine r_aload_n rfl rfl ?_
      refine r_getR rfl (so184 hS) (sr184_5 hS) ?_
      refine r_iload rfl rfl ?_
      refine r_iald rfl (sw189 hS) (by omega) (by omega) ?_
      rw [g3]
      refine r_aload_n rfl rfl ?_
      refine r_getR rfl (so184 hS) (sr184_5 hS) ?_
      refine r_iload_n rfl rfl ?_
      refine r_iald rfl (sw189 hS) (by omega) (by omega) ?_
      rw [a3]
      refine r_isub rfl ?_
      refine r_i2l rfl (by unfold inI; omega) ?_
      refine r_iload rfl rfl ?_
      refine r_i2l rfl (by unfold inI; omega) ?_
      refine r_lmul rfl ?_
      refine r_iload rfl rfl ?_
      refine r_i2l rfl (by unfold inI; omega) ?_
      refine r_iload rfl rfl ?_
      refine r_iload rfl rfl ?_
      refine r_imul rfl ?_
      refine r_iload rfl rfl ?_
      refine r_iload rfl rfl ?_
      refine r_imul rfl ?_
      refine r_iadd rfl ?_
      refine r_i2l rfl (by unfold inI; omega) ?_
      refine r_lmul rfl ?_
      refine r_lsub rfl ?_
      rw [rs_eq]
      refine r_lstore rfl (Nat.le_of_ble_eq_true rfl) ?_
      refine r_iload rfl rfl ?_
      refine r_iload rfl rfl ?_
      refine r_imul rfl ?_
      refine r_iload rfl rfl ?_
      refine r_iload rfl rfl ?_
      refine r_imul rfl ?_
      refine r_iadd rfl ?_
      rw [show (I k - I a) * d0 + (J k - J a) * e0 = slE I J a d0 e0 k from rfl]
      refine r_i2l rfl (by unfold inI; omega) ?_
      refine r_lstore rfl (Nat.le_of_ble_eq_true rfl) ?_
      exact hbody _ _ _ _
  refine wp_in (C := c_M_bounds) (ls := [some (pR 184), some (pI f), some (pI s), some (pI t), some (pI d0), some (pI e0), none, none, none, none, none, none, none, none, none, none, none, none, none, none, none]) rfl rfl rfl rfl rfl ?_
  refine r_aload_n rfl rfl ?_
  refine r_iconst rfl ?_
  refine r_putZ rfl (so184 hS) (by first | exact Or.inl rfl | exact Or.inr rfl | assumption) ?_
  refine r_aload_n rfl rfl ?_
  refine r_iconst rfl ?_
  refine r_putZ rfl (so184 hS) (by first | exact Or.inl rfl | exact Or.inr rfl | assumption) ?_
  have r27 : ∀ c, c ≠ 184 → zput (zput zI 184 27 0) 184 28 0 c = zI c := fun c hc => by rw [zput_row hc, zput_row hc]
  have ra := hrg a ha.1 ha.2
  have rb := hrg b hb.1 hb.2
  clear hd he
  refine r_aload_n rfl rfl ?_
  refine r_getR rfl (so184 hS) (sr184_3 hS) ?_
  refine r_iload_n rfl rfl ?_
  refine r_iald rfl (sw187 hS) (by omega) (by omega) ?_
  rw [r27 187 (by decide), gb1]
  refine r_aload_n rfl rfl ?_
  refine r_getR rfl (so184 hS) (sr184_3 hS) ?_
  refine r_iload_n rfl rfl ?_
  refine r_iald rfl (sw187 hS) (by omega) (by omega) ?_
  rw [r27 187 (by decide), ga1]
  refine r_isub rfl ?_
  refine r_istore rfl (Nat.le_of_ble_eq_true rfl) ?_
  refine r_aload_n rfl rfl ?_
  refine r_getR rfl (so184 hS) (sr184_4 hS) ?_
  refine r_iload_n rfl rfl ?_
  refine r_iald rfl (sw188 hS) (by omega) (by omega) ?_
  rw [r27 188 (by decide), gb2]
  refine r_aload_n rfl rfl ?_
  refine r_getR rfl (so184 hS) (sr184_4 hS) ?_
  refine r_iload_n rfl rfl ?_
  refine r_iald rfl (sw188 hS) (by omega) (by omega) ?_
  rw [r27 188 (by decide), ga2]
  refine r_isub rfl ?_
  refine r_istore rfl (Nat.le_of_ble_eq_true rfl) ?_
  refine r_iload rfl rfl ?_
  refine r_iload rfl rfl ?_
  refine r_imul rfl ?_
  refine r_iload rfl rfl ?_
  refine r_iload rfl rfl ?_
  refine r_imul rfl ?_
  refine r_iadd rfl ?_
  rw [show (I b - I a) * (I b - I a) + (J b - J a) * (J b - J a) = byE I J a b from rfl]
  refine r_istore rfl (Nat.le_of_ble_eq_true rfl) ?_
  refine r_aload_n rfl rfl ?_
  refine r_getR rfl (so184 hS) (sr184_5 hS) ?_
  refine r_iload_n rfl rfl ?_
  refine r_iald rfl (sw189 hS) (by omega) (by omega) ?_
  rw [r27 189 (by decide), gb3]
  refine r_aload_n rfl rfl ?_
  refine r_getR rfl (so184 hS) (sr184_5 hS) ?_
  refine r_iload_n rfl rfl ?_
  refine r_iald rfl (sw189 hS) (by omega) (by omega) ?_
  rw [r27 189 (by decide), ga3]
  refine r_isub rfl ?_
  refine r_istore rfl (Nat.le_of_ble_eq_true rfl) ?_
  refine r_bipush rfl ?_
  refine r_iload_n rfl rfl ?_
  refine r_imul rfl ?_
  refine r_istore rfl (Nat.le_of_ble_eq_true rfl) ?_
  exact key 0 hn0 (Int.le_refl _) _ zL (-1) (-1) _ none none none none none none (by omega) (frB_p (frB_p ⟨fun _ _ => rfl, fun _ _ _ => rfl⟩ (Or.inl rfl)) (Or.inr rfl)) ⟨fun _ _ => rfl, fun _ _ => rfl⟩ ⟨Or.inl ⟨rfl, by rw [zput_off (by decide), zput_at]⟩, Or.inl ⟨rfl, zput_at⟩⟩ (by rw [Int.sub_zero])
