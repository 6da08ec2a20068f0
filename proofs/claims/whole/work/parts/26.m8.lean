/-! NUMBERS: the greatest common divisor, lowest terms; POINTS -/
def gc (a b : Int) : Int := if Nat.gcd a.natAbs b.natAbs = 0 then 1 else (Nat.gcd a.natAbs b.natAbs : Nat)
theorem two_mod {x y : Nat} (h0 : 0 < y) (h : y ≤ x) : 2 * (x % y) < x := by
  have h1 := Nat.mod_lt x h0
  have h2 := Nat.div_add_mod x y
  have h3 : 1 ≤ x / y := (Nat.one_le_div_iff h0).mpr h
  have h4 : y * 1 ≤ y * (x / y) := Nat.mul_le_mul_left y h3
  omega
theorem gc_b {a b B : Int} (ha : -B ≤ a ∧ a ≤ B) (hb : -B ≤ b ∧ b ≤ B) (h1 : 1 ≤ B) : 1 ≤ gc a b ∧ gc a b ≤ B := by
  unfold gc
  split
  · omega
  · rename_i h
    refine ⟨by omega, ?_⟩
    rcases Nat.eq_zero_or_pos a.natAbs with h0 | h0
    · rw [h0, Nat.gcd_zero_left]; omega
    · have := Nat.gcd_le_left b.natAbs h0; omega
set_option maxHeartbeats 2000000 in
theorem w_gcd {X : PX} {d : Nat} {S : SS} {zI zL : ZM} {Q : PQ} {a b : Int} (ha : -500000000000000 ≤ a ∧ a ≤ 500000000000000) (hb : -500000000000000 ≤ b ∧ b ≤ 500000000000000) (hQ : Q (some (pL (gc a b))) S zI zL) : wpM X (d + 1) fC_commonDivisor [pL a, pL b] S zI zL Q := by
  have l0 : inL 0 := by unfold inL; omega
  have key : ∀ s : Int, s ≤ 100 → 0 ≤ s → ∀ (x y k : Nat) (w : Option PV), ((y < 2 ^ k ∧ s + 2 * k ≤ 100) ∨ (x < 2 ^ k ∧ y < x ∧ s + 2 * k ≤ 101)) → x ≤ 500000000000000 → y ≤ 500000000000000 → Nat.gcd x y = Nat.gcd a.natAbs b.natAbs → (∀ v, w ≠ some (pI v)) →
      Run X d c_C_commonDivisor 20 [some (pL a), none, some (pL b), none, some (pL x), none, some (pL y), none, some (pI s), w, none] [] S zI zL 0 0 Q := by
    refine loop_up _ 100 (fun s hk ih h0 x y k w hm hxb hyb hg hwp => ?_)
    have lx : inL (x : Int) := by unfold inL; omega
    have ly : inL (y : Int) := by unfold inL; omega
    have fin : y = 0 → Run X d c_C_commonDivisor 37 [some (pL a), none, some (pL b), none, some (pL x), none, some (pL y), none, some (pI s), w, none] [] S zI zL 0 0 Q := by
      intro hy
      rw [hy, Nat.gcd_zero_right] at hg
      unfold gc at hQ
      rw [← hg] at hQ
      refine r_lload rfl rfl ?_
      refine r_lconst rfl ?_
      refine r_l_le rfl rfl lx l0 (fun h40 => ?_) (fun h40 => ?_)
      · skip
        refine r_lconst rfl ?_
        refine r_lret rfl ?_
        rw [if_pos (by omega)] at hQ; exact hQ
      · skip
        refine r_lload rfl rfl ?_
        refine r_goto rfl ?_
        refine r_lret rfl ?_
        rw [if_neg (by omega)] at hQ; exact hQ
    have emod : (x : Int).tmod (y : Int) = ((x % y : Nat) : Int) := by rw [Int.tmod_eq_emod_of_nonneg (by omega), Int.natCast_emod]
    refine r_iload rfl rfl ?_
    refine r_bipush rfl ?_
    refine r_icmp_ge rfl (by unfold inI; omega) (by unfold inI; omega) (fun h22 => ?_) (fun h22 => ?_)
    · skip
      refine fin ?_
      have h100 : s = 100 := by omega
      rcases hm with ⟨q1, q2⟩ | ⟨q1, q2, q3⟩
      · have hk0 : k = 0 := by omega
        rw [hk0] at q1; omega
      · have hk0 : k = 0 := by omega
        rw [hk0] at q1; omega
    · skip
      refine r_lload rfl rfl ?_
      refine r_lconst rfl ?_
      refine r_l_eq rfl rfl ly l0 (fun h26 => ?_) (fun h26 => ?_)
      · skip
        exact fin (by omega)
      · skip
        refine r_lload rfl rfl ?_
        refine r_lload rfl rfl ?_
        refine r_lrem rfl lx ly (by omega) ?_
        rw [emod]
        refine r_lstore rfl (Nat.le_of_ble_eq_true rfl) ?_
        refine r_lload rfl rfl ?_
        refine r_lstore rfl (Nat.le_of_ble_eq_true rfl) ?_
        refine r_lload rfl rfl ?_
        refine r_lstore rfl (Nat.le_of_ble_eq_true rfl) ?_
        refine r_iinc rfl rfl ?_
        refine r_goto rfl ?_
        have hy0 : 0 < y := by omega
        have hml := Nat.mod_lt x hy0
        have hgr : Nat.gcd y (x % y) = Nat.gcd a.natAbs b.natAbs := by rw [← hg, Nat.gcd_comm x y, Nat.gcd_rec y x, Nat.gcd_comm]
        refine ih (by omega) (by omega) y (x % y) (if y < 2 ^ k ∧ s + 2 * k ≤ 100 then k else k - 1) _ ?_ hyb (by omega) hgr (fun v h => by cases h)
        by_cases hA : y < 2 ^ k ∧ s + 2 * k ≤ 100
        · rw [if_pos hA]; exact Or.inr ⟨hA.1, hml, by omega⟩
        · rw [if_neg hA]
          obtain ⟨q1, q2, q3⟩ := hm.resolve_left hA
          refine Or.inl ⟨?_, ?_⟩
          · have h2 := two_mod hy0 (Nat.le_of_lt q2)
            cases k with
            | zero => omega
            | succ k => rw [Nat.pow_succ] at q1; rw [Nat.add_sub_cancel]; omega
          · cases k with
            | zero => omega
            | succ k => omega
  have hx : ∀ x0 : Int, x0 = (if a < 0 then -a else a) → ∀ y0 : Int, y0 = (if b < 0 then -b else b) → Run X d c_C_commonDivisor 18 [some (pL a), none, some (pL b), none, some (pL x0), none, some (pL y0), none, none, none, none] [] S zI zL 0 0 Q := by
    intro x0 e1 y0 e2
    have e1 : x0 = (a.natAbs : Int) := by rw [e1]; split <;> omega
    have e2 : y0 = (b.natAbs : Int) := by rw [e2]; split <;> omega
    subst e1; subst e2
    refine r_iconst rfl ?_
    refine r_istore rfl (Nat.le_of_ble_eq_true rfl) ?_
    exact key 0 (by omega) (Int.le_refl _) a.natAbs b.natAbs 49 none (Or.inl ⟨by rw [show (2 : Nat) ^ 49 = 562949953421312 from rfl]; omega, by omega⟩) (by omega) (by omega) rfl (fun v h => by cases h)
  have la : inL a := by unfold inL; omega
  have lb : inL b := by unfold inL; omega
  refine wp_in (C := c_C_commonDivisor) (ls := [some (pL a), none, some (pL b), none, none, none, none, none, none, none, none]) rfl rfl rfl rfl rfl ?_
  refine r_lload_n rfl rfl ?_
  refine r_lconst rfl ?_
  refine r_l_ge rfl rfl la l0 (fun h3 => ?_) (fun h3 => ?_)
  · skip
    refine r_lload_n rfl rfl ?_
    refine r_lstore rfl (Nat.le_of_ble_eq_true rfl) ?_
    refine r_lload_n rfl rfl ?_
    refine r_lconst rfl ?_
    refine r_l_ge rfl rfl lb l0 (fun h12 => ?_) (fun h12 => ?_)
    · skip
      refine r_lload_n rfl rfl ?_
      refine r_lstore rfl (Nat.le_of_ble_eq_true rfl) ?_
      exact hx _ (by rw [if_neg (by omega)]) _ (by rw [if_neg (by omega)])
    · skip
      refine r_lload_n rfl rfl ?_
      refine r_lneg rfl ?_
      refine r_goto rfl ?_
      refine r_lstore rfl (Nat.le_of_ble_eq_true rfl) ?_
      exact hx _ (by rw [if_neg (by omega)]) _ (by rw [if_pos (by omega)])
  · skip
    refine r_lload_n rfl rfl ?_
    refine r_lneg rfl ?_
    refine r_goto rfl ?_
    refine r_lstore rfl (Nat.le_of_ble_eq_true rfl) ?_
    refine r_lload_n rfl rfl ?_
    refine r_lconst rfl ?_
    refine r_l_ge rfl rfl lb l0 (fun h12 => ?_) (fun h12 => ?_)
    · skip
      refine r_lload_n rfl rfl ?_
      refine r_lstore rfl (Nat.le_of_ble_eq_true rfl) ?_
      exact hx _ (by rw [if_pos (by omega)]) _ (by rw [if_neg (by omega)])
    · skip
      refine r_lload_n rfl rfl ?_
      refine r_lneg rfl ?_
      refine r_goto rfl ?_
      refine r_lstore rfl (Nat.le_of_ble_eq_true rfl) ?_
      exact hx _ (by rw [if_pos (by omega)]) _ (by rw [if_pos (by omega)])
def sg (b : Int) : Int := if b < 0 then -1 else 1
/-- lowest terms: above, below the line -/
def rdA (x b : Int) : Int := x.tdiv (sg b * gc x b)
def rdB (x b : Int) : Int := b.tdiv (sg b * gc x b)
theorem sg_gc {x b B : Int} (hx : -B ≤ x ∧ x ≤ B) (hb : -B ≤ b ∧ b ≤ B) (h1 : 1 ≤ B) : (-B ≤ sg b * gc x b ∧ sg b * gc x b ≤ B) ∧ sg b * gc x b ≠ 0 := by
  have := gc_b hx hb h1
  unfold sg
  split <;> omega
set_option maxHeartbeats 2000000 in
theorem w_reduce {X : PX} {d : Nat} {S : SS} {zI zL : ZM} {Q : PQ} {p : Nat} {x y b : Int} (hp : isPoint S p) (hx : -500000000000000 ≤ x ∧ x ≤ 500000000000000) (hy : -500000000000000 ≤ y ∧ y ≤ 500000000000000) (hb : -500000000000000 ≤ b ∧ b ≤ 500000000000000) (hQ : Q none S zI (zput (zput (zput (zput zL p 0 (rdA x b)) p 1 (rdB x b)) p 2 (rdA y b)) p 3 (rdB y b))) : wpM X (d + 2) fPoint_reduce [pR p, pL x, pL y, pL b] S zI zL Q := by
  unfold isPoint at hp
  have l0 : inL 0 := by unfold inL; omega
  have lx : inL x := by unfold inL; omega
  have ly : inL y := by unfold inL; omega
  have lb : inL b := by unfold inL; omega
  have gx := sg_gc hx hb (by omega)
  have gy := sg_gc hy hb (by omega)
  have lgx : inL (sg b * gc x b) := by unfold inL; omega
  have lgy : inL (sg b * gc y b) := by unfold inL; omega
  have rest : ∀ s : Int, s = sg b → Run X (d + 1) c_Point_reduce 8 [some (pR p), some (pL x), none, some (pL y), none, some (pL b), none, some (pL s), none, none, none, none, none] [] S zI zL 0 0 Q := by
    intro s hs
    subst hs
    refine r_lload rfl rfl ?_
    refine r_lload_n rfl rfl ?_
    refine r_lload rfl rfl ?_
    refine r_cS2 rfl (by decide) (Nat.le_of_ble_eq_true rfl) rfl rfl (w_gcd hx hb ?_)
    refine r_lmul rfl ?_
    refine r_lstore rfl (Nat.le_of_ble_eq_true rfl) ?_
    refine r_lload rfl rfl ?_
    refine r_lload_n rfl rfl ?_
    refine r_lload rfl rfl ?_
    refine r_cS2 rfl (by decide) (Nat.le_of_ble_eq_true rfl) rfl rfl (w_gcd hy hb ?_)
    refine r_lmul rfl ?_
    refine r_lstore rfl (Nat.le_of_ble_eq_true rfl) ?_
    refine r_aload_n rfl rfl ?_
    refine r_lload_n rfl rfl ?_
    refine r_lload rfl rfl ?_
    refine r_ldiv rfl lx lgx gx.2 ?_
    refine r_putL rfl (by assumption) ?_
    refine r_aload_n rfl rfl ?_
    refine r_lload rfl rfl ?_
    refine r_lload rfl rfl ?_
    refine r_ldiv rfl lb lgx gx.2 ?_
    refine r_putL rfl (by assumption) ?_
    refine r_aload_n rfl rfl ?_
    refine r_lload_n rfl rfl ?_
    refine r_lload rfl rfl ?_
    refine r_ldiv rfl ly lgy gy.2 ?_
    refine r_putL rfl (by assumption) ?_
    refine r_aload_n rfl rfl ?_
    refine r_lload rfl rfl ?_
    refine r_lload rfl rfl ?_
    refine r_ldiv rfl lb lgy gy.2 ?_
    refine r_putL rfl (by assumption) ?_
    refine r_ret rfl ?_
    exact hQ
  refine wp_in (C := c_Point_reduce) (ls := [some (pR p), some (pL x), none, some (pL y), none, some (pL b), none, none, none, none, none, none, none]) rfl rfl rfl rfl rfl ?_
  refine r_lload rfl rfl ?_
  refine r_lconst rfl ?_
  refine r_l_ge rfl rfl lb l0 (fun h3 => ?_) (fun h3 => ?_)
  · skip
    refine r_lconst rfl ?_
    refine r_lstore rfl (Nat.le_of_ble_eq_true rfl) ?_
    exact rest 1 (by unfold sg; rw [if_neg (by omega)])
  · skip
    refine r_ldc2_w rfl ?_
    refine r_goto rfl ?_
    refine r_lstore rfl (Nat.le_of_ble_eq_true rfl) ?_
    exact rest (-1) (by unfold sg; rw [if_pos (by omega)])
def alg (p q x xd y yd : Int) : Int := p * y * xd - q * x * yd
theorem alg_b {p q x xd y yd : Int} (hp : -8 ≤ p ∧ p ≤ 8) (hq : -8 ≤ q ∧ q ≤ 8) (hB : PB x xd y yd) : -14000000 ≤ alg p q x xd y yd ∧ alg p q x xd y yd ≤ 14000000 := by
  obtain ⟨⟨p1, p2, p3, p4⟩, p5, p6, p7, p8⟩ := hB
  have a1 := mb (A := 8) (B := 6400) hp.1 hp.2 p5 p6
  have a2 := mb (A := 51200) (B := 128) (a := p * y) (by omega) (by omega) (show -128 ≤ xd by omega) p4
  have b1 := mb (A := 8) (B := 6400) hq.1 hq.2 p1 p2
  have b2 := mb (A := 51200) (B := 128) (a := q * x) (by omega) (by omega) (show -128 ≤ yd by omega) p8
  unfold alg; omega
theorem w_along {X : PX} {d : Nat} {S : SS} {zI zL : ZM} {Q : PQ} {h : Nat} {x xd y yd p q : Int} (hp : isPoint S h) (hP : PH zL h x xd y yd) (h1 : inI p) (h2 : inI q) (hQ : Q (some (pL (alg p q x xd y yd))) S zI zL) : wpM X (d + 1) fPoint_along [pR h, pI p, pI q] S zI zL Q := by
  unfold isPoint at hp
  obtain ⟨⟨e0, e1⟩, e2, e3⟩ := hP
  refine wp_in (C := c_Point_along) (ls := [some (pR h), some (pI p), some (pI q)]) rfl rfl rfl rfl rfl ?_
  refine r_iload_n rfl rfl ?_
  refine r_i2l rfl h1 ?_
  refine r_aload_n rfl rfl ?_
  refine r_getL rfl (by assumption) ?_
  refine r_lmul rfl ?_
  refine r_aload_n rfl rfl ?_
  refine r_getL rfl (by assumption) ?_
  refine r_lmul rfl ?_
  refine r_iload_n rfl rfl ?_
  refine r_i2l rfl h2 ?_
  refine r_aload_n rfl rfl ?_
  refine r_getL rfl (by assumption) ?_
  refine r_lmul rfl ?_
  refine r_aload_n rfl rfl ?_
  refine r_getL rfl (by assumption) ?_
  refine r_lmul rfl ?_
  refine r_lsub rfl ?_
  refine r_lret rfl ?_
  rw [e0, e1, e2, e3]; exact hQ
/-- before (-1), with (0) or after (1) another point by a way -/
def cmpA (p q x xd y yd x' xd' y' yd' : Int) : Int := if alg p q x xd y yd * (xd' * yd') < alg p q x' xd' y' yd' * (xd * yd) then -1 else if alg p q x xd y yd * (xd' * yd') = alg p q x' xd' y' yd' * (xd * yd) then 0 else 1
theorem below_b {x xd y yd : Int} (hB : PB x xd y yd) : 1 ≤ xd * yd ∧ xd * yd ≤ 16384 := by
  obtain ⟨⟨p1, p2, p3, p4⟩, p5, p6, p7, p8⟩ := hB
  have a1 := mb (A := 128) (B := 128) (show -128 ≤ xd by omega) p4 (show -128 ≤ yd by omega) p8
  have := Int.mul_pos (show 0 < xd by omega) (show 0 < yd by omega)
  omega
theorem w_cmpAlong {X : PX} {d : Nat} {S : SS} {zI zL : ZM} {Q : PQ} {h h' : Nat} {x xd y yd x' xd' y' yd' p q : Int} (hp : isPoint S h) (hP : PH zL h x xd y yd) (hp' : isPoint S h') (hP' : PH zL h' x' xd' y' yd') (hB : PB x xd y yd) (hB' : PB x' xd' y' yd') (h1 : -8 ≤ p ∧ p ≤ 8) (h2 : -8 ≤ q ∧ q ≤ 8) (hQ : Q (some (pI (cmpA p q x xd y yd x' xd' y' yd'))) S zI zL) : wpM X (d + 2) fPoint_compareAlong [pR h, pR h', pI p, pI q] S zI zL Q := by
  have hob : ob S h 4 := hp
  have hob' : ob S h' 4 := hp'
  have i1 : inI p := by unfold inI; omega
  have i2 : inI q := by unfold inI; omega
  have b1 := below_b hB
  have b2 := below_b hB'
  have a1 := alg_b h1 h2 hB
  have a2 := alg_b h1 h2 hB'
  have m1 := mb (A := 14000000) (B := 16384) a1.1 a1.2 (by omega) b2.2 (b := xd' * yd')
  have m2 := mb (A := 14000000) (B := 16384) a2.1 a2.2 (by omega) b1.2 (b := xd * yd)
  refine wp_in (C := c_Point_compareAlong) (ls := [some (pR h), some (pR h'), some (pI p), some (pI q)]) rfl rfl rfl rfl rfl ?_
  refine r_aload_n rfl rfl ?_
  refine r_iload_n rfl rfl ?_
  refine r_iload_n rfl rfl ?_
  refine r_cV3 rfl hob (Nat.le_of_ble_eq_true rfl) rfl rfl (w_along hp hP i1 i2 ?_)
  refine r_aload_n rfl rfl ?_
  refine r_cV1 rfl hob' (Nat.le_of_ble_eq_true rfl) rfl rfl (w_below hp' hP' ?_)
  refine r_lmul rfl ?_
  refine r_aload_n rfl rfl ?_
  refine r_iload_n rfl rfl ?_
  refine r_iload_n rfl rfl ?_
  refine r_cV3 rfl hob' (Nat.le_of_ble_eq_true rfl) rfl rfl (w_along hp' hP' i1 i2 ?_)
  refine r_aload_n rfl rfl ?_
  refine r_cV1 rfl hob (Nat.le_of_ble_eq_true rfl) rfl rfl (w_below hp hP ?_)
  refine r_lmul rfl ?_
  refine r_cS2 rfl (by decide) (Nat.le_of_ble_eq_true rfl) rfl rfl (w_lcompare (by unfold inL; omega) (by unfold inL; omega) ?_)
  refine r_iret rfl ?_
  exact hQ
