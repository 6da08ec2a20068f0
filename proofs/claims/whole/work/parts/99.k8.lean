/-! THE LAW -/
def a00 : FA := (0, fun _ => 0, fun _ => 0, fun _ _ => 0, fun _ _ => 0, fun _ _ => 0)
def s00 : SA := (fun _ => -1, fun _ => 0, fun _ _ => 0)
theorem IV_0 {S : SS} {z y : ZM} (h1 : INV z y) (h2 : INM z) : IV S z y a00 0 (fun _ => 0) [] s00 := by
  obtain ⟨p1, p2, p3, p4, p5⟩ := h1
  obtain ⟨q1, q2, q3, q4⟩ := h2
  refine ⟨⟨⟨⟨by rw [p1]; rfl, p2, fun f f0 f1 => p4 f.toNat (by omega)⟩, fun f f0 f1 => absurd f1 (by show ¬ f < 0; omega)⟩, ⟨by rw [p1], fun k k0 k1 => absurd k1 (by omega)⟩, ⟨p3, fun j hj => absurd hj (by simp)⟩, fun k k0 k1 => ?_⟩, ⟨⟨q1 0, fun f f0 f1 => absurd f1 (by show ¬ f < 0; omega)⟩, ⟨q1 48, fun k k0 k1 => absurd k1 (by omega)⟩, ⟨q1 50, fun j hj => absurd hj (by simp)⟩, fun k k0 k1 => ⟨q2 k k0 k1, by rw [q3]; rfl, fun i _ _ => by rw [q4]; rfl⟩⟩, ⟨⟨Int.le_refl _, by decide⟩, fun f f0 f1 => absurd f1 (by show ¬ f < 0; omega)⟩, by decide, fun k k0 k1 => absurd k1 (by omega), by decide, fun k k0 k1 => ⟨by show -1 ≤ (-1 : Int) ∧ (-1 : Int) ≤ 2; decide, by show 0 ≤ (0 : Int) ∧ (0 : Int) ≤ 40; decide, fun i _ _ => by show inI 0; unfold inI; decide⟩⟩
  obtain ⟨x1, x2, x3⟩ := p5 k.toNat (by omega)
  exact ⟨x1, x2, fun i _ _ => by rw [x3]; rfl⟩
theorem and31 (v : Int32) : 0 ≤ (v &&& i3 31).toInt ∧ (v &&& i3 31).toInt ≤ 31 := by
  have h1 : (v &&& i3 31).toBitVec.toNat ≤ 31 := by
    show (v.toBitVec &&& (i3 31).toBitVec).toNat ≤ 31
    rw [BitVec.toNat_and]
    exact Nat.le_trans Nat.and_le_right (by decide)
  have h2 : (v &&& i3 31).toInt = ((v &&& i3 31).toBitVec.toNat : Int) := BitVec.toInt_eq_toNat_of_lt (by omega)
  omega
theorem xOf_ok (L : Nat) (xs : Nat → Int32) : xsOK (xOf L xs) := ⟨rfl, rfl, rfl⟩
theorem xOf_in (L : Nat) (xs : Nat → Int32) (k : Int) : inI ((xOf L xs 0).2 k) := by
  show inI (xs k.toNat).toInt
  have h1 := (xs k.toNat).le_toInt
  have h2 := (xs k.toNat).toInt_lt
  unfold inI
  omega
set_option maxRecDepth 100000 in
set_option maxHeartbeats 4000000 in
theorem law_loop (hm : MATHS) {L : Nat} {xs : Nat → Int32} (hL : L ≤ 3072) {S : SS} (hS : Sk S) {ms : Nat} : ∀ (n : Nat) (i : Int) (z y : ZM) (a : FA) (rn : Int) (r : Int → Int) (t : List Int) (s : SA), 0 ≤ i → i ≤ (L : Int) + 6 → (L : Int) + 6 ≤ i + 6 * n → IV S z y a rn r t s → Run (xOf L xs) (31 + 9) c_Law_law 10 [some (pR xbase), some (pR 0), some (pR 184), some (pI i)] [] S z y 0 ms lawQ := by
  intro n
  have hL1 : (xOf L xs 0).1 ≤ 100000 := by show L ≤ 100000; omega
  have fin : ∀ (i : Int) (z y : ZM), Run (xOf L xs) (31 + 9) c_Law_law 1088 [some (pR xbase), some (pR 0), some (pR 184), some (pI i)] [] S z y 0 ms lawQ := fun i z y => by
    refine r_iconst rfl ?_
    refine r_zret rfl (Or.inr rfl) ?_
    rfl
  have hd : ∀ (i : Int) (z y : ZM), 0 ≤ i → i ≤ (L : Int) + 6 → (i + 6 ≤ (L : Int) → Run (xOf L xs) (31 + 9) c_Law_law 16 [some (pR xbase), some (pR 0), some (pR 184), some (pI i)] [] S z y 0 ms lawQ) → Run (xOf L xs) (31 + 9) c_Law_law 10 [some (pR xbase), some (pR 0), some (pR 184), some (pI i)] [] S z y 0 ms lawQ := fun i z y i0 i1 hk => by
    refine r_iload_n rfl rfl ?_
    refine r_aload_n rfl rfl ?_
    refine r_xlen (e := 0) rfl (by decide) ?_
    refine r_bipush rfl ?_
    refine r_isub rfl ?_
    refine r_icmp_gt rfl (by unfold inI; omega) (by show inI ((L : Int) - 6); unfold inI; omega) (fun _ => fin i z y) (fun q => ?_)
    have q : i ≤ (L : Int) - 6 := q
    exact hk (by omega)
  induction n with
  | zero =>
    intro i z y a rn r t s i0 i1 i2 hst
    exact hd i z y i0 i1 (fun q => absurd q (by omega))
  | succ n ih =>
    intro i z y a rn r t s i0 i1 i2 hst
    refine hd i z y i0 i1 (fun q => ?_)
    have nx : ∀ z y a rn r t s, IV S z y a rn r t s → Run (xOf L xs) (31 + 9) c_Law_law 1086 [some (pR xbase), some (pR 0), some (pR 184), some (pI i)] [] S z y 0 ms lawQ := fun z y a rn r t s h => by
      refine r_iinc rfl rfl ?_
      refine r_goto rfl ?_
      exact ih (i + 6) z y a rn r t s (by omega) (by omega) (by omega) h
    refine r_aload_n rfl rfl ?_
    refine r_iload_n rfl rfl ?_
    refine r_ixld (e := 0) rfl (by decide) hL1 i0 (by show i < (L : Int); omega) ?_
    refine r_bipush rfl ?_
    refine r_iand rfl ?_
    have hb := and31 (i3 ((xOf L xs 0).2 i))
    generalize (i3 ((xOf L xs 0).2 i) &&& i3 31).toInt = w at hb ⊢
    have all : Run (xOf L xs) (31 + 9) c_Law_law 21 [some (pR xbase), some (pR 0), some (pR 184), some (pI i)] [pI w] S z y 0 ms lawQ := by
      by_cases e0 : w = 0
      · subst e0
        refine r_tsw rfl (by unfold inI; decide) rfl ?_
        exact lw_0 (xOf_ok L xs) hS hm hL1 i0 (by show i + 6 ≤ (L : Int); omega) (xOf_in L xs) hst nx
      by_cases e1 : w = 1
      · subst e1
        refine r_tsw rfl (by unfold inI; decide) rfl ?_
        exact lw_1 (xOf_ok L xs) hS hm hL1 i0 (by show i + 6 ≤ (L : Int); omega) (xOf_in L xs) hst nx
      by_cases e2 : w = 2
      · subst e2
        refine r_tsw rfl (by unfold inI; decide) rfl ?_
        exact lw_2 (xOf_ok L xs) hS hm hL1 i0 (by show i + 6 ≤ (L : Int); omega) (xOf_in L xs) hst nx
      by_cases e3 : w = 3
      · subst e3
        refine r_tsw rfl (by unfold inI; decide) rfl ?_
        exact lw_3 (xOf_ok L xs) hS hm hL1 i0 (by show i + 6 ≤ (L : Int); omega) (xOf_in L xs) hst nx
      by_cases e4 : w = 4
      · subst e4
        refine r_tsw rfl (by unfold inI; decide) rfl ?_
        exact lw_4 (xOf_ok L xs) hS hm hL1 i0 (by show i + 6 ≤ (L : Int); omega) (xOf_in L xs) hst nx
      by_cases e5 : w = 5
      · subst e5
        refine r_tsw rfl (by unfold inI; decide) rfl ?_
        exact lw_5 (xOf_ok L xs) hS hm hL1 i0 (by show i + 6 ≤ (L : Int); omega) (xOf_in L xs) hst nx
      by_cases e6 : w = 6
      · subst e6
        refine r_tsw rfl (by unfold inI; decide) rfl ?_
        exact lw_6 (xOf_ok L xs) hS hm hL1 i0 (by show i + 6 ≤ (L : Int); omega) (xOf_in L xs) hst nx
      by_cases e7 : w = 7
      · subst e7
        refine r_tsw rfl (by unfold inI; decide) rfl ?_
        exact lw_7 (xOf_ok L xs) hS hm hL1 i0 (by show i + 6 ≤ (L : Int); omega) (xOf_in L xs) hst nx
      by_cases e8 : w = 8
      · subst e8
        refine r_tsw rfl (by unfold inI; decide) rfl ?_
        exact lw_8 (xOf_ok L xs) hS hm hL1 i0 (by show i + 6 ≤ (L : Int); omega) (xOf_in L xs) hst nx
      by_cases e9 : w = 9
      · subst e9
        refine r_tsw rfl (by unfold inI; decide) rfl ?_
        exact lw_9 (xOf_ok L xs) hS hm hL1 i0 (by show i + 6 ≤ (L : Int); omega) (xOf_in L xs) hst nx
      by_cases e10 : w = 10
      · subst e10
        refine r_tsw rfl (by unfold inI; decide) rfl ?_
        exact lw_10 (xOf_ok L xs) hS hm hL1 i0 (by show i + 6 ≤ (L : Int); omega) (xOf_in L xs) hst nx
      by_cases e11 : w = 11
      · subst e11
        refine r_tsw rfl (by unfold inI; decide) rfl ?_
        exact lw_11 (xOf_ok L xs) hS hm hL1 i0 (by show i + 6 ≤ (L : Int); omega) (xOf_in L xs) hst nx
      by_cases e12 : w = 12
      · subst e12
        refine r_tsw rfl (by unfold inI; decide) rfl ?_
        exact lw_12 (xOf_ok L xs) hS hm hL1 i0 (by show i + 6 ≤ (L : Int); omega) (xOf_in L xs) hst nx
      by_cases e13 : w = 13
      · subst e13
        refine r_tsw rfl (by unfold inI; decide) rfl ?_
        exact lw_13 (xOf_ok L xs) hS hm hL1 i0 (by show i + 6 ≤ (L : Int); omega) (xOf_in L xs) hst nx
      by_cases e14 : w = 14
      · subst e14
        refine r_tsw rfl (by unfold inI; decide) rfl ?_
        exact lw_14 (xOf_ok L xs) hS hm hL1 i0 (by show i + 6 ≤ (L : Int); omega) (xOf_in L xs) hst nx
      by_cases e15 : w = 15
      · subst e15
        refine r_tsw rfl (by unfold inI; decide) rfl ?_
        exact lw_15 (xOf_ok L xs) hS hm hL1 i0 (by show i + 6 ≤ (L : Int); omega) (xOf_in L xs) hst nx
      by_cases e16 : w = 16
      · subst e16
        refine r_tsw rfl (by unfold inI; decide) rfl ?_
        exact lw_16 (xOf_ok L xs) hS hm hL1 i0 (by show i + 6 ≤ (L : Int); omega) (xOf_in L xs) hst nx
      by_cases e17 : w = 17
      · subst e17
        refine r_tsw rfl (by unfold inI; decide) rfl ?_
        exact lw_17 (xOf_ok L xs) hS hm hL1 i0 (by show i + 6 ≤ (L : Int); omega) (xOf_in L xs) hst nx
      by_cases e18 : w = 18
      · subst e18
        refine r_tsw rfl (by unfold inI; decide) rfl ?_
        exact lw_18 (xOf_ok L xs) hS hm hL1 i0 (by show i + 6 ≤ (L : Int); omega) (xOf_in L xs) hst nx
      by_cases e19 : w = 19
      · subst e19
        refine r_tsw rfl (by unfold inI; decide) rfl ?_
        exact lw_19 (xOf_ok L xs) hS hm hL1 i0 (by show i + 6 ≤ (L : Int); omega) (xOf_in L xs) hst nx
      by_cases e20 : w = 20
      · subst e20
        refine r_tsw rfl (by unfold inI; decide) rfl ?_
        exact lw_20 (xOf_ok L xs) hS hm hL1 i0 (by show i + 6 ≤ (L : Int); omega) (xOf_in L xs) hst nx
      by_cases e21 : w = 21
      · subst e21
        refine r_tsw rfl (by unfold inI; decide) rfl ?_
        exact lw_21 (xOf_ok L xs) hS hm hL1 i0 (by show i + 6 ≤ (L : Int); omega) (xOf_in L xs) hst nx
      by_cases e22 : w = 22
      · subst e22
        refine r_tsw rfl (by unfold inI; decide) rfl ?_
        exact lw_22 (xOf_ok L xs) hS hm hL1 i0 (by show i + 6 ≤ (L : Int); omega) (xOf_in L xs) hst nx
      by_cases e23 : w = 23
      · subst e23
        refine r_tsw rfl (by unfold inI; decide) rfl ?_
        exact lw_23 (xOf_ok L xs) hS hm hL1 i0 (by show i + 6 ≤ (L : Int); omega) (xOf_in L xs) hst nx
      by_cases e24 : w = 24
      · subst e24
        refine r_tsw rfl (by unfold inI; decide) rfl ?_
        exact lw_24 (xOf_ok L xs) hS hm hL1 i0 (by show i + 6 ≤ (L : Int); omega) (xOf_in L xs) hst nx
      by_cases e25 : w = 25
      · subst e25
        refine r_tsw rfl (by unfold inI; decide) rfl ?_
        exact lw_25 (xOf_ok L xs) hS hm hL1 i0 (by show i + 6 ≤ (L : Int); omega) (xOf_in L xs) hst nx
      by_cases e26 : w = 26
      · subst e26
        refine r_tsw rfl (by unfold inI; decide) rfl ?_
        exact lw_26 (xOf_ok L xs) hS hm hL1 i0 (by show i + 6 ≤ (L : Int); omega) (xOf_in L xs) hst nx
      by_cases e27 : w = 27
      · subst e27
        refine r_tsw rfl (by unfold inI; decide) rfl ?_
        exact lw_27 (xOf_ok L xs) hS hm hL1 i0 (by show i + 6 ≤ (L : Int); omega) (xOf_in L xs) hst nx
      by_cases e28 : w = 28
      · subst e28
        refine r_tsw rfl (by unfold inI; decide) rfl ?_
        exact lw_28 (xOf_ok L xs) hS hm hL1 i0 (by show i + 6 ≤ (L : Int); omega) (xOf_in L xs) hst nx
      by_cases e29 : w = 29
      · subst e29
        refine r_tsw rfl (by unfold inI; decide) rfl ?_
        exact lw_29 (xOf_ok L xs) hS hm hL1 i0 (by show i + 6 ≤ (L : Int); omega) (xOf_in L xs) hst nx
      by_cases e30 : w = 30
      · subst e30
        refine r_tsw rfl (by unfold inI; decide) rfl ?_
        exact lw_30 (xOf_ok L xs) hS hm hL1 i0 (by show i + 6 ≤ (L : Int); omega) (xOf_in L xs) hst nx
      by_cases e31 : w = 31
      · subst e31
        refine r_tsw rfl (by unfold inI; decide) rfl ?_
        exact lw_31 (xOf_ok L xs) hS hm hL1 i0 (by show i + 6 ≤ (L : Int); omega) (xOf_in L xs) hst nx
      omega
    exact all
set_option maxRecDepth 100000 in
set_option maxHeartbeats 4000000 in
theorem law_pure (hm : MATHS) (L : Nat) (hL : L ≤ 3072) (xs : Nat → Int32) : Run (xOf L xs) 40 (MCode 214) 0 (entryL 4 [pR xbase]) [] S00 (fun _ _ => 0) (fun _ _ => 0) 221 7302249 lawQ := by
  show Run (xOf L xs) (31 + 9) c_Law_law 0 [some (pR xbase), none, none, none] [] S00 (fun _ _ => 0) (fun _ _ => 0) 221 7302249 lawQ
  refine k_new (q := 0) rfl (by decide) (by decide +kernel) rfl (by decide) (fun S1 z1 y1 ha1 hb1 hc1 hd1 he1 hf1 => ?_)
  have sk1 : SkN S1 1 := ⟨ha1, fun e he h1 h2 => absurd h2 ((show ∀ e ∈ RT, e.1 < 1 → ¬ e.2.2 < 1 by decide +kernel) e he h1)⟩
  refine r_dupR rfl ?_
  refine r_callI rfl (by decide) rfl rfl rfl (Nat.le_of_ble_eq_true rfl) (by decide +kernel) (by decide +kernel) (c_init (d := 37) sk1 hd1 (fun S2 z2 y2 sk2 iv2 => ?_))
  refine r_astore_n rfl (Nat.le_of_ble_eq_true rfl) ?_
  refine k_new (q := 184) rfl (by decide +kernel) (by decide +kernel) (skN_len sk2 (by decide)) (by decide) (fun S3 z3 y3 ha3 hb3 hc3 hd3 he3 hf3 => ?_)
  have sk3 : SkN S3 185 := skN_of (l := [(10, 0)]) (fun _ => True) [] sk2 ha3 (by decide +kernel) (by decide +kernel) (fun e he => absurd he (by simp)) (fun e h1 _ => by rw [hb3, rrow_o (Nat.ne_of_lt h1)])
  refine r_dupR rfl ?_
  refine r_callI rfl (by decide) rfl rfl rfl (Nat.le_of_ble_eq_true rfl) (by decide +kernel) (by decide +kernel) (m_init (d := 39) sk3 (fun k => by rw [hd3]) (fun S4 z4 y4 sk4 im4 hz4 hy4 => ?_))
  refine r_astore_n rfl (Nat.le_of_ble_eq_true rfl) ?_
  refine r_iconst rfl ?_
  refine r_istore_n rfl (Nat.le_of_ble_eq_true rfl) ?_
  have iv4 : INV z4 y4 := by
    obtain ⟨p1, p2, p3, p4, p5⟩ := iv2
    have g : ∀ c, c < 184 → z4 c = z2 c := fun c h => (hz4 c h).trans (hc3 c (Nat.ne_of_lt h))
    have g2 : ∀ c, c < 184 → y4 c = y2 c := fun c h => (hy4 c h).trans (he3 c (Nat.ne_of_lt h))
    refine ⟨(g 0 (by decide)).trans p1, by rw [g 14 (by decide)]; exact p2, by rw [g 24 (by decide)]; exact p3, fun f hf => by rw [g _ (by omega)]; exact p4 f hf, fun k hk => ?_⟩
    rw [g _ (by omega), g2 _ (by omega)]
    exact p5 k hk
  have em : 221 - 1 - MC 76 - 1 - MC 123 = 0 := by decide +kernel
  have key := law_loop hm hL (skN_all sk4) (ms := 7302249 - NF 9 - MS 76 - NF 10 - MS 123) (xs := xs) 600 0 z4 y4 a00 0 (fun _ => 0) [] s00 (Int.le_refl _) (by omega) (by omega) (IV_0 iv4 im4)
  rw [← em] at key
  exact key
