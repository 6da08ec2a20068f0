/-! SHEETS; THE TRACE and the bodies -/
theorem zfill_row {z : ZM} {h : Nat} {n v : Int} {c : Nat} (hc : c ≠ h) : zfill z h n v c = z c := by funext k; unfold zfill; rw [if_neg (fun q => hc q.1)]
theorem w_become {X : PX} {d : Nat} {S : SS} {zI zL : ZM} {Q : PQ} {h : Nat} (hH : isSheet S h) {s n : Int} (hQ : Q none S (zput (zput zI h 1 s) h 2 n) (zfill zL (h + 1) 40 0)) : wpM X (d + 2) fSheet_become [pR h, pI s, pI n] S zI zL Q := by
  obtain ⟨hob, hr, hf⟩ := hH
  refine wp_in (C := c_Sheet_become) (ls := [some (pR h), some (pI s), some (pI n)]) rfl rfl rfl rfl rfl ?_
  refine r_aload_n rfl rfl ?_
  refine r_iload_n rfl rfl ?_
  refine r_putI rfl (by assumption) ?_
  refine r_aload_n rfl rfl ?_
  refine r_iload_n rfl rfl ?_
  refine r_putI rfl (by assumption) ?_
  refine r_aload_n rfl rfl ?_
  refine r_getR rfl (by assumption) (by assumption) ?_
  refine r_lconst rfl ?_
  refine r_cS2 rfl (by decide) (Nat.le_of_ble_eq_true rfl) rfl rfl (w_fillJ hr ?_)
  refine r_ret rfl ?_
  exact hQ
theorem w_sholds {X : PX} {d : Nat} {S : SS} {zI zL : ZM} {Q : PQ} {h : Nat} (hH : isSheet S h) {i n : Int} (hi : inI i) (hn : inI n) (hz : 0 ≤ zI h 2 ∧ zI h 2 ≤ 40) (hQ1 : 0 ≤ n → 0 ≤ i → i + n ≤ zI h 2 → Q (some (pI 1)) S zI zL) (hQ0 : ¬ (0 ≤ n ∧ 0 ≤ i ∧ i + n ≤ zI h 2) → Q (some (pI 0)) S zI zL) : wpM X (d + 1) fSheet_holds [pR h, pI i, pI n] S zI zL Q := by
  obtain ⟨hob, hr, hf⟩ := hH
  refine wp_in (C := c_Sheet_holds) (ls := [some (pR h), some (pI i), some (pI n)]) rfl rfl rfl rfl rfl ?_
  refine r_iload_n rfl rfl ?_
  refine r_if_lt rfl hn (fun h1 => ?_) (fun h1 => ?_)
  · skip
    refine r_iconst rfl ?_
    refine r_zret rfl (by first | exact Or.inl rfl | exact Or.inr rfl | assumption) ?_
    exact hQ0 (by omega)
  · skip
    refine r_iload_n rfl rfl ?_
    refine r_if_lt rfl hi (fun h3 => ?_) (fun h3 => ?_)
    · skip
      refine r_iconst rfl ?_
      refine r_zret rfl (by first | exact Or.inl rfl | exact Or.inr rfl | assumption) ?_
      exact hQ0 (by omega)
    · skip
      refine r_iload_n rfl rfl ?_
      refine r_aload_n rfl rfl ?_
      refine r_getI rfl (by assumption) ?_
      refine r_icmp_gt rfl hi (by unfold inI; omega) (fun h7 => ?_) (fun h7 => ?_)
      · skip
        refine r_iconst rfl ?_
        refine r_zret rfl (by first | exact Or.inl rfl | exact Or.inr rfl | assumption) ?_
        exact hQ0 (by omega)
      · skip
        refine r_iload_n rfl rfl ?_
        refine r_aload_n rfl rfl ?_
        refine r_getI rfl (by assumption) ?_
        refine r_iload_n rfl rfl ?_
        refine r_isub rfl ?_
        refine r_icmp_gt rfl hn (by unfold inI; omega) (fun h13 => ?_) (fun h13 => ?_)
        · skip
          refine r_iconst rfl ?_
          refine r_zret rfl (by first | exact Or.inl rfl | exact Or.inr rfl | assumption) ?_
          exact hQ0 (by omega)
        · skip
          refine r_iconst rfl ?_
          refine r_goto rfl ?_
          refine r_zret rfl (by first | exact Or.inl rfl | exact Or.inr rfl | assumption) ?_
          exact hQ1 (by omega) (by omega) (by omega)
/-- the trace as it is kept -/
def TrH (z : ZM) (o a : Nat) (k : Int) (L : List Int) : Prop := z o k = (L.length : Int) ∧ ∀ j : Nat, j < L.length → z a (j : Int) = L.getD j 0
theorem TrH_app {z : ZM} {o a : Nat} {k : Int} {L : List Int} {b : Int} (h : TrH z o a k L) (ha : a ≠ o) : TrH (zput (zput z a (L.length : Int) b) o k ((L.length : Int) + 1)) o a k (L ++ [b]) := by
  refine ⟨?_, fun j hj => ?_⟩
  · rw [zput_at]; simp
  · rw [List.length_append] at hj
    have hj : j < L.length + 1 := hj
    rw [zput_row ha]
    by_cases e : j = L.length
    · subst e; rw [zput_at]; simp [List.getD]
    · rw [zput_off (by omega), h.2 j (by omega)]; simp [List.getD, List.getElem?_append_left (show j < L.length by omega)]
def xsOK (X : PX) : Prop := X 1 = (4, xLies) ∧ X 2 = (4, xWeighs) ∧ X 3 = (4, xMeets)
/-- the form whose act runs -/
def AcH (z : ZM) (m k t : Int) : Prop := z 24 2 = m ∧ z 24 3 = k ∧ z 24 4 = t
theorem w_begins {X : PX} {d : Nat} {S : SS} {zI zL : ZM} {Q : PQ} (hS : Sk S) {L : List Int} {b : Int} (hT : TrH zI 24 25 1 L) (hl : L.length < 40) (hQ : ∀ z, (∀ c, c ≠ 24 → c ≠ 25 → z c = zI c) → (∀ k, k ≠ 1 → z 24 k = zI 24 k) → TrH z 24 25 1 (L ++ [b]) → Q none S z zL) : wpM X (d + 1) fTrace_begins [pR 24, pI b] S zI zL Q := by
  have e1 := hT.1
  refine wp_in (C := c_Trace_begins) (ls := [some (pR 24), some (pI b)]) rfl rfl rfl rfl rfl ?_
  refine r_aload_n rfl rfl ?_
  refine r_getI rfl (so24 hS) ?_
  rw [e1]
  refine r_bipush rfl ?_
  refine r_icmp_ge rfl (by unfold inI; omega) (by unfold inI; omega) (fun h3 => ?_) (fun h3 => ?_)
  · skip
    exact absurd h3 (by omega)
  · skip
    refine r_aload_n rfl rfl ?_
    refine r_getR rfl (so24 hS) (sr24_0 hS) ?_
    refine r_aload_n rfl rfl ?_
    refine r_getI rfl (so24 hS) ?_
    rw [e1]
    refine r_iload_n rfl rfl ?_
    refine r_iast rfl (sw25 hS) (by omega) (by omega) ?_
    refine r_aload_n rfl rfl ?_
    refine r_dupR rfl ?_
    refine r_getI rfl (so24 hS) ?_
    rw [zput_row (show (24 : Nat) ≠ 25 by decide), e1]
    refine r_iconst rfl ?_
    refine r_iadd rfl ?_
    refine r_putI rfl (so24 hS) ?_
    refine r_ret rfl ?_
    exact hQ _ (fun c k0 k1 => by rw [zput_row k0, zput_row k1]) (fun k hk => by rw [zput_off hk, zput_row (show (24 : Nat) ≠ 25 by decide)]) (TrH_app hT (by decide))
theorem w_bodyL {X : PX} {d : Nat} {S : SS} {zI zL : ZM} {Q : PQ} (hS : Sk S) (hX : xsOK X) {K : Int} (hK : zI 24 3 = K) (hb : 0 ≤ K ∧ K ≤ 3) (hQ : Q (some (pI (xLies K))) S zI zL) : wpM X (d + 1) fTrace_bodyOf [pR 24, pI 0] S zI zL Q := by
  have hx : X 1 = (4, xLies) := hX.1
  have q1 : (X 1).1 ≤ 100000 := by rw [hx]; decide
  have q2 : ((X 1).1 : Int) = 4 := by rw [hx]; rfl
  have q3 : (X 1).2 = xLies := by rw [hx]
  refine wp_in (C := c_Trace_bodyOf) (ls := [some (pR 24), some (pI 0)]) rfl rfl rfl rfl rfl ?_
  refine r_iload_n rfl rfl ?_
  refine r_lsw (t := 2) rfl (by unfold inI; omega) rfl ?_
  refine r_gets rfl ?_
  refine r_aload_n rfl rfl ?_
  refine r_getI rfl (so24 hS) ?_
  rw [hK]
  refine r_ixld rfl (by decide) q1 (by omega) (by omega) ?_
  refine r_iret rfl ?_
  rw [q3]; exact hQ
theorem w_bodyW {X : PX} {d : Nat} {S : SS} {zI zL : ZM} {Q : PQ} (hS : Sk S) (hX : xsOK X) {K : Int} (hK : zI 24 3 = K) (hb : 0 ≤ K ∧ K ≤ 3) (hQ : Q (some (pI (xWeighs K))) S zI zL) : wpM X (d + 1) fTrace_bodyOf [pR 24, pI 1] S zI zL Q := by
  have hx : X 2 = (4, xWeighs) := hX.2.1
  have q1 : (X 2).1 ≤ 100000 := by rw [hx]; decide
  have q2 : ((X 2).1 : Int) = 4 := by rw [hx]; rfl
  have q3 : (X 2).2 = xWeighs := by rw [hx]
  refine wp_in (C := c_Trace_bodyOf) (ls := [some (pR 24), some (pI 1)]) rfl rfl rfl rfl rfl ?_
  refine r_iload_n rfl rfl ?_
  refine r_lsw (t := 7) rfl (by unfold inI; omega) rfl ?_
  refine r_gets rfl ?_
  refine r_aload_n rfl rfl ?_
  refine r_getI rfl (so24 hS) ?_
  rw [hK]
  refine r_ixld rfl (by decide) q1 (by omega) (by omega) ?_
  refine r_iret rfl ?_
  rw [q3]; exact hQ
theorem w_bodyM {X : PX} {d : Nat} {S : SS} {zI zL : ZM} {Q : PQ} (hS : Sk S) (hX : xsOK X) {K : Int} (hK : zI 24 3 = K) (hb : 0 ≤ K ∧ K ≤ 3) (hQ : Q (some (pI (xMeets K))) S zI zL) : wpM X (d + 1) fTrace_bodyOf [pR 24, pI 2] S zI zL Q := by
  have hx : X 3 = (4, xMeets) := hX.2.2
  have q1 : (X 3).1 ≤ 100000 := by rw [hx]; decide
  have q2 : ((X 3).1 : Int) = 4 := by rw [hx]; rfl
  have q3 : (X 3).2 = xMeets := by rw [hx]
  refine wp_in (C := c_Trace_bodyOf) (ls := [some (pR 24), some (pI 2)]) rfl rfl rfl rfl rfl ?_
  refine r_iload_n rfl rfl ?_
  refine r_lsw (t := 12) rfl (by unfold inI; omega) rfl ?_
  refine r_gets rfl ?_
  refine r_aload_n rfl rfl ?_
  refine r_getI rfl (so24 hS) ?_
  rw [hK]
  refine r_ixld rfl (by decide) q1 (by omega) (by omega) ?_
  refine r_iret rfl ?_
  rw [q3]; exact hQ
def x7 (a : Int) : Int := (i3 a ^^^ i3 7).toInt
def lieV (K t x : Int) : Int := if K = 1 then x7 (x + t) else if K = 2 then x7 (x + t) * 2 else x + t
def lieT (K : Int) : List Int := if K = 1 then [20, 10] else if K = 2 then [31, 20, 10] else [10]
def weiV (K t x : Int) : Int := if K = 2 then lieV K t (x - 1) * 3 else lieV K t x * 3
def weiT (K : Int) : List Int := if K = 2 then 30 :: 11 :: lieT K else 11 :: lieT K
def meeF (K t m x : Int) : Int := weiV K t x - lieV K t (x + m)
def meeT (K : Int) : List Int := 12 :: (weiT K ++ lieT K)
def meeV (K t m x : Int) : Int := if K = 1 ∨ K = 2 then meeF K t m x + lieV K t 0 else if K = 3 then (i3 (meeF K t m x) ^^^ i3 (weiV K t x)).toInt else meeF K t m x
def metT (K : Int) : List Int := if K = 1 ∨ K = 2 then 21 :: (meeT K ++ lieT K) else if K = 3 then 40 :: (meeT K ++ weiT K) else meeT K
def frT (z zI : ZM) : Prop := (∀ c, c ≠ 24 → c ≠ 25 → z c = zI c) ∧ (∀ k, k ≠ 1 → z 24 k = zI 24 k)
theorem frT_t {z z2 z3 : ZM} (h1 : frT z2 z) (h2 : frT z3 z2) : frT z3 z := ⟨fun c a b => (h2.1 c a b).trans (h1.1 c a b), fun k hk => (h2.2 k hk).trans (h1.2 k hk)⟩
theorem AcH_fr {z zI : ZM} {m k t : Int} (h : AcH zI m k t) (hz : frT z zI) : AcH z m k t := by unfold AcH; rw [hz.2 2 (by decide), hz.2 3 (by decide), hz.2 4 (by decide)]; exact h
theorem w_rb10 {X : PX} {d : Nat} {S : SS} {zI zL : ZM} {Q : PQ} (hS : Sk S) (hX : xsOK X) {L : List Int} {m K t x dep : Int} (hA : AcH zI m K t) (hK : 0 ≤ K ∧ K ≤ 3) (hT : TrH zI 24 25 1 L) (hl : L.length < 40) (hd : 0 ≤ dep ∧ dep ≤ 16) (hQ : ∀ z, frT z zI → TrH z 24 25 1 (L ++ [10]) → Q (some (pI (x + t))) S z zL) : wpM X (d + 2) fC_runBody [pR 24, pI (10), pI x, pI dep] S zI zL Q := by
  refine wp_in (C := c_C_runBody) (ls := [some (pR 24), some (pI (10)), some (pI x), some (pI dep), none]) rfl rfl rfl rfl rfl ?_
  refine r_iload_n rfl rfl ?_
  refine r_bipush rfl ?_
  refine r_icmp_le rfl (by unfold inI; omega) (by unfold inI; omega) (fun h2 => ?_) (fun h2 => ?_)
  · skip
    refine r_aload_n rfl rfl ?_
    refine r_iload_n rfl rfl ?_
    refine r_cV2 rfl (so24 hS) (Nat.le_of_ble_eq_true rfl) rfl rfl (w_begins hS hT (by omega) (fun z1 f1 f2 hT1 => ?_))
    have g1 : frT z1 zI := ⟨f1, f2⟩
    have hA1 := AcH_fr hA g1
    refine r_iload_n rfl rfl ?_
    refine r_iconst rfl ?_
    refine r_iadd rfl ?_
    refine r_istore rfl (Nat.le_of_ble_eq_true rfl) ?_
    refine r_iload_n rfl rfl ?_
    refine r_lsw (t := 14) rfl (by unfold inI; omega) rfl ?_
    refine r_iload_n rfl rfl ?_
    refine r_aload_n rfl rfl ?_
    refine r_getI rfl (so24 hS) ?_
    rw [hA1.2.2]
    refine r_iadd rfl ?_
    refine r_iret rfl ?_
    exact hQ z1 g1 hT1
  · skip
    exact absurd h2 (by omega)
theorem w_rb20 {X : PX} {d : Nat} {S : SS} {zI zL : ZM} {Q : PQ} (hS : Sk S) (hX : xsOK X) {L : List Int} {m K t x dep : Int} (hA : AcH zI m K t) (hK : 0 ≤ K ∧ K ≤ 3) (hT : TrH zI 24 25 1 L) (hl : L.length < 39) (hd : 0 ≤ dep ∧ dep ≤ 15) (hQ : ∀ z, frT z zI → TrH z 24 25 1 (L ++ [20, 10]) → Q (some (pI (x7 (x + t)))) S z zL) : wpM X (d + 3) fC_runBody [pR 24, pI (20), pI x, pI dep] S zI zL Q := by
  refine wp_in (C := c_C_runBody) (ls := [some (pR 24), some (pI (20)), some (pI x), some (pI dep), none]) rfl rfl rfl rfl rfl ?_
  refine r_iload_n rfl rfl ?_
  refine r_bipush rfl ?_
  refine r_icmp_le rfl (by unfold inI; omega) (by unfold inI; omega) (fun h2 => ?_) (fun h2 => ?_)
  · skip
    refine r_aload_n rfl rfl ?_
    refine r_iload_n rfl rfl ?_
    refine r_cV2 rfl (so24 hS) (Nat.le_of_ble_eq_true rfl) rfl rfl (w_begins hS hT (by omega) (fun z1 f1 f2 hT1 => ?_))
    have g1 : frT z1 zI := ⟨f1, f2⟩
    have hA1 := AcH_fr hA g1
    refine r_iload_n rfl rfl ?_
    refine r_iconst rfl ?_
    refine r_iadd rfl ?_
    refine r_istore rfl (Nat.le_of_ble_eq_true rfl) ?_
    refine r_iload_n rfl rfl ?_
    refine r_lsw (t := 48) rfl (by unfold inI; omega) rfl ?_
    refine r_aload_n rfl rfl ?_
    refine r_bipush rfl ?_
    refine r_iload_n rfl rfl ?_
    refine r_iload rfl rfl ?_
    refine r_cS4 rfl (by decide) (Nat.le_of_ble_eq_true rfl) rfl rfl (w_rb10 hS hX hA1 hK hT1 (by simp; omega) (by omega) (fun z2 g2 hT2 => ?_))
    refine r_bipush rfl ?_
    refine r_ixor rfl ?_
    refine r_iret rfl ?_
    exact hQ z2 (frT_t g1 g2) (by rw [List.append_assoc] at hT2; exact hT2)
  · skip
    exact absurd h2 (by omega)
theorem w_rb31 {X : PX} {d : Nat} {S : SS} {zI zL : ZM} {Q : PQ} (hS : Sk S) (hX : xsOK X) {L : List Int} {m K t x dep : Int} (hA : AcH zI m K t) (hK : 0 ≤ K ∧ K ≤ 3) (hT : TrH zI 24 25 1 L) (hl : L.length < 38) (hd : 0 ≤ dep ∧ dep ≤ 14) (hQ : ∀ z, frT z zI → TrH z 24 25 1 (L ++ [31, 20, 10]) → Q (some (pI (x7 (x + t) * 2))) S z zL) : wpM X (d + 4) fC_runBody [pR 24, pI (31), pI x, pI dep] S zI zL Q := by
  refine wp_in (C := c_C_runBody) (ls := [some (pR 24), some (pI (31)), some (pI x), some (pI dep), none]) rfl rfl rfl rfl rfl ?_
  refine r_iload_n rfl rfl ?_
  refine r_bipush rfl ?_
  refine r_icmp_le rfl (by unfold inI; omega) (by unfold inI; omega) (fun h2 => ?_) (fun h2 => ?_)
  · skip
    refine r_aload_n rfl rfl ?_
    refine r_iload_n rfl rfl ?_
    refine r_cV2 rfl (so24 hS) (Nat.le_of_ble_eq_true rfl) rfl rfl (w_begins hS hT (by omega) (fun z1 f1 f2 hT1 => ?_))
    have g1 : frT z1 zI := ⟨f1, f2⟩
    have hA1 := AcH_fr hA g1
    refine r_iload_n rfl rfl ?_
    refine r_iconst rfl ?_
    refine r_iadd rfl ?_
    refine r_istore rfl (Nat.le_of_ble_eq_true rfl) ?_
    refine r_iload_n rfl rfl ?_
    refine r_lsw (t := 78) rfl (by unfold inI; omega) rfl ?_
    refine r_aload_n rfl rfl ?_
    refine r_bipush rfl ?_
    refine r_iload_n rfl rfl ?_
    refine r_iload rfl rfl ?_
    refine r_cS4 rfl (by decide) (Nat.le_of_ble_eq_true rfl) rfl rfl (w_rb20 hS hX hA1 hK hT1 (by simp; omega) (by omega) (fun z2 g2 hT2 => ?_))
    refine r_iconst rfl ?_
    refine r_imul rfl ?_
    refine r_iret rfl ?_
    exact hQ z2 (frT_t g1 g2) (by rw [List.append_assoc] at hT2; exact hT2)
  · skip
    exact absurd h2 (by omega)
theorem w_rbL {X : PX} {d : Nat} {S : SS} {zI zL : ZM} {Q : PQ} (hS : Sk S) (hX : xsOK X) {L : List Int} {m K t x dep : Int} (hA : AcH zI m K t) (hK : 0 ≤ K ∧ K ≤ 3) (hT : TrH zI 24 25 1 L) (hl : L.length < 38) (hd : 0 ≤ dep ∧ dep ≤ 14) (hQ : ∀ z, frT z zI → TrH z 24 25 1 (L ++ lieT K) → Q (some (pI (lieV K t x))) S z zL) : wpM X (d + 4) fC_runBody [pR 24, pI (xLies K), pI x, pI dep] S zI zL Q := by
  have hc : K = 0 ∨ K = 1 ∨ K = 2 ∨ K = 3 := by omega
  rcases hc with rfl | rfl | rfl | rfl
  · exact w_rb10 (d := d + 2) hS hX hA hK hT (by omega) (by omega) hQ
  · exact w_rb20 (d := d + 1) hS hX hA hK hT (by omega) (by omega) hQ
  · exact w_rb31 hS hX hA hK hT (by omega) (by omega) hQ
  · exact w_rb10 (d := d + 2) hS hX hA hK hT (by omega) (by omega) hQ
theorem lieT_l (K : Int) : (lieT K).length ≤ 3 := by unfold lieT; split; decide; split; decide; decide
theorem weiT_l (K : Int) : (weiT K).length ≤ 5 := by
  have := lieT_l K
  unfold weiT; split <;> simp <;> omega
theorem meeT_l (K : Int) : (meeT K).length ≤ 9 := by
  have := lieT_l K
  have := weiT_l K
  unfold meeT; simp; omega
theorem w_rb11 {X : PX} {d : Nat} {S : SS} {zI zL : ZM} {Q : PQ} (hS : Sk S) (hX : xsOK X) {L : List Int} {m K t x dep : Int} (hA : AcH zI m K t) (hK : 0 ≤ K ∧ K ≤ 3) (hT : TrH zI 24 25 1 L) (hl : L.length < 37) (hd : 0 ≤ dep ∧ dep ≤ 13) (hQ : ∀ z, frT z zI → TrH z 24 25 1 (L ++ (11 :: lieT K)) → Q (some (pI (lieV K t x * 3))) S z zL) : wpM X (d + 5) fC_runBody [pR 24, pI (11), pI x, pI dep] S zI zL Q := by
  refine wp_in (C := c_C_runBody) (ls := [some (pR 24), some (pI (11)), some (pI x), some (pI dep), none]) rfl rfl rfl rfl rfl ?_
  refine r_iload_n rfl rfl ?_
  refine r_bipush rfl ?_
  refine r_icmp_le rfl (by unfold inI; omega) (by unfold inI; omega) (fun h2 => ?_) (fun h2 => ?_)
  · skip
    refine r_aload_n rfl rfl ?_
    refine r_iload_n rfl rfl ?_
    refine r_cV2 rfl (so24 hS) (Nat.le_of_ble_eq_true rfl) rfl rfl (w_begins hS hT (by omega) (fun z1 f1 f2 hT1 => ?_))
    have g1 : frT z1 zI := ⟨f1, f2⟩
    have hA1 := AcH_fr hA g1
    refine r_iload_n rfl rfl ?_
    refine r_iconst rfl ?_
    refine r_iadd rfl ?_
    refine r_istore rfl (Nat.le_of_ble_eq_true rfl) ?_
    refine r_iload_n rfl rfl ?_
    refine r_lsw (t := 19) rfl (by unfold inI; omega) rfl ?_
    refine r_aload_n rfl rfl ?_
    refine r_aload_n rfl rfl ?_
    refine r_iconst rfl ?_
    refine r_cV2 rfl (so24 hS) (Nat.le_of_ble_eq_true rfl) rfl rfl (w_bodyL hS hX hA1.2.1 hK ?_)
    refine r_iload_n rfl rfl ?_
    refine r_iload rfl rfl ?_
    refine r_cS4 rfl (by decide) (Nat.le_of_ble_eq_true rfl) rfl rfl (w_rbL hS hX hA1 hK hT1 (by simp; omega) (by omega) (fun z2 g2 hT2 => ?_))
    refine r_iconst rfl ?_
    refine r_imul rfl ?_
    refine r_iret rfl ?_
    exact hQ z2 (frT_t g1 g2) (by rw [List.append_assoc] at hT2; exact hT2)
  · skip
    exact absurd h2 (by omega)
theorem w_rb30 {X : PX} {d : Nat} {S : SS} {zI zL : ZM} {Q : PQ} (hS : Sk S) (hX : xsOK X) {L : List Int} {m K t x dep : Int} (hA : AcH zI m K t) (hK : 0 ≤ K ∧ K ≤ 3) (hT : TrH zI 24 25 1 L) (hl : L.length < 36) (hd : 0 ≤ dep ∧ dep ≤ 12) (hQ : ∀ z, frT z zI → TrH z 24 25 1 (L ++ (30 :: 11 :: lieT K)) → Q (some (pI (lieV K t (x - 1) * 3))) S z zL) : wpM X (d + 6) fC_runBody [pR 24, pI (30), pI x, pI dep] S zI zL Q := by
  refine wp_in (C := c_C_runBody) (ls := [some (pR 24), some (pI (30)), some (pI x), some (pI dep), none]) rfl rfl rfl rfl rfl ?_
  refine r_iload_n rfl rfl ?_
  refine r_bipush rfl ?_
  refine r_icmp_le rfl (by unfold inI; omega) (by unfold inI; omega) (fun h2 => ?_) (fun h2 => ?_)
  · skip
    refine r_aload_n rfl rfl ?_
    refine r_iload_n rfl rfl ?_
    refine r_cV2 rfl (so24 hS) (Nat.le_of_ble_eq_true rfl) rfl rfl (w_begins hS hT (by omega) (fun z1 f1 f2 hT1 => ?_))
    have g1 : frT z1 zI := ⟨f1, f2⟩
    have hA1 := AcH_fr hA g1
    refine r_iload_n rfl rfl ?_
    refine r_iconst rfl ?_
    refine r_iadd rfl ?_
    refine r_istore rfl (Nat.le_of_ble_eq_true rfl) ?_
    refine r_iload_n rfl rfl ?_
    refine r_lsw (t := 70) rfl (by unfold inI; omega) rfl ?_
    refine r_aload_n rfl rfl ?_
    refine r_bipush rfl ?_
    refine r_iload_n rfl rfl ?_
    refine r_iconst rfl ?_
    refine r_isub rfl ?_
    refine r_iload rfl rfl ?_
    refine r_cS4 rfl (by decide) (Nat.le_of_ble_eq_true rfl) rfl rfl (w_rb11 hS hX hA1 hK hT1 (by simp; omega) (by omega) (fun z2 g2 hT2 => ?_))
    refine r_iret rfl ?_
    exact hQ z2 (frT_t g1 g2) (by rw [List.append_assoc] at hT2; exact hT2)
  · skip
    exact absurd h2 (by omega)
theorem w_rbW {X : PX} {d : Nat} {S : SS} {zI zL : ZM} {Q : PQ} (hS : Sk S) (hX : xsOK X) {L : List Int} {m K t x dep : Int} (hA : AcH zI m K t) (hK : 0 ≤ K ∧ K ≤ 3) (hT : TrH zI 24 25 1 L) (hl : L.length < 36) (hd : 0 ≤ dep ∧ dep ≤ 12) (hQ : ∀ z, frT z zI → TrH z 24 25 1 (L ++ weiT K) → Q (some (pI (weiV K t x))) S z zL) : wpM X (d + 6) fC_runBody [pR 24, pI (xWeighs K), pI x, pI dep] S zI zL Q := by
  by_cases e : K = 2
  · subst e; exact w_rb30 hS hX hA hK hT hl hd hQ
  · unfold weiT weiV at hQ
    rw [if_neg e] at hQ
    rw [if_neg e] at hQ
    unfold xWeighs; rw [if_neg e]
    exact w_rb11 (d := d + 1) hS hX hA hK hT (by omega) (by omega) hQ
theorem w_rb12 {X : PX} {d : Nat} {S : SS} {zI zL : ZM} {Q : PQ} (hS : Sk S) (hX : xsOK X) {L : List Int} {m K t x dep : Int} (hA : AcH zI m K t) (hK : 0 ≤ K ∧ K ≤ 3) (hT : TrH zI 24 25 1 L) (hl : L.length < 31) (hd : 0 ≤ dep ∧ dep ≤ 11) (hQ : ∀ z, frT z zI → TrH z 24 25 1 (L ++ meeT K) → Q (some (pI (meeF K t m x))) S z zL) : wpM X (d + 7) fC_runBody [pR 24, pI (12), pI x, pI dep] S zI zL Q := by
  have l1 := weiT_l K
  refine wp_in (C := c_C_runBody) (ls := [some (pR 24), some (pI (12)), some (pI x), some (pI dep), none]) rfl rfl rfl rfl rfl ?_
  refine r_iload_n rfl rfl ?_
  refine r_bipush rfl ?_
  refine r_icmp_le rfl (by unfold inI; omega) (by unfold inI; omega) (fun h2 => ?_) (fun h2 => ?_)
  · skip
    refine r_aload_n rfl rfl ?_
    refine r_iload_n rfl rfl ?_
    refine r_cV2 rfl (so24 hS) (Nat.le_of_ble_eq_true rfl) rfl rfl (w_begins hS hT (by omega) (fun z1 f1 f2 hT1 => ?_))
    have g1 : frT z1 zI := ⟨f1, f2⟩
    have hA1 := AcH_fr hA g1
    refine r_iload_n rfl rfl ?_
    refine r_iconst rfl ?_
    refine r_iadd rfl ?_
    refine r_istore rfl (Nat.le_of_ble_eq_true rfl) ?_
    refine r_iload_n rfl rfl ?_
    refine r_lsw (t := 29) rfl (by unfold inI; omega) rfl ?_
    refine r_aload_n rfl rfl ?_
    refine r_aload_n rfl rfl ?_
    refine r_iconst rfl ?_
    refine r_cV2 rfl (so24 hS) (Nat.le_of_ble_eq_true rfl) rfl rfl (w_bodyW hS hX hA1.2.1 hK ?_)
    refine r_iload_n rfl rfl ?_
    refine r_iload rfl rfl ?_
    refine r_cS4 rfl (by decide) (Nat.le_of_ble_eq_true rfl) rfl rfl (w_rbW hS hX hA1 hK hT1 (by simp; omega) (by omega) (fun z2 g2 hT2 => ?_))
    refine r_aload_n rfl rfl ?_
    refine r_aload_n rfl rfl ?_
    refine r_iconst rfl ?_
    refine r_cV2 rfl (so24 hS) (Nat.le_of_ble_eq_true rfl) rfl rfl (w_bodyL hS hX (AcH_fr hA1 g2).2.1 hK ?_)
    refine r_iload_n rfl rfl ?_
    refine r_aload_n rfl rfl ?_
    refine r_getI rfl (so24 hS) ?_
    rw [(AcH_fr hA1 g2).1]
    refine r_iadd rfl ?_
    refine r_iload rfl rfl ?_
    refine r_cS4 rfl (by decide) (Nat.le_of_ble_eq_true rfl) rfl rfl (w_rbL (d := d + 2) hS hX (AcH_fr hA1 g2) hK hT2 (by simp; omega) (by omega) (fun z3 g3 hT3 => ?_))
    refine r_isub rfl ?_
    refine r_iret rfl ?_
    exact hQ z3 (frT_t g1 (frT_t g2 g3)) (by rw [List.append_assoc, List.append_assoc] at hT3; exact hT3)
  · skip
    exact absurd h2 (by omega)
theorem w_rb21 {X : PX} {d : Nat} {S : SS} {zI zL : ZM} {Q : PQ} (hS : Sk S) (hX : xsOK X) {L : List Int} {m K t x dep : Int} (hA : AcH zI m K t) (hK : 0 ≤ K ∧ K ≤ 3) (hT : TrH zI 24 25 1 L) (hl : L.length < 27) (hd : 0 ≤ dep ∧ dep ≤ 10) (hQ : ∀ z, frT z zI → TrH z 24 25 1 (L ++ (21 :: (meeT K ++ lieT K))) → Q (some (pI (meeF K t m x + lieV K t 0))) S z zL) : wpM X (d + 8) fC_runBody [pR 24, pI (21), pI x, pI dep] S zI zL Q := by
  have l1 := meeT_l K
  refine wp_in (C := c_C_runBody) (ls := [some (pR 24), some (pI (21)), some (pI x), some (pI dep), none]) rfl rfl rfl rfl rfl ?_
  refine r_iload_n rfl rfl ?_
  refine r_bipush rfl ?_
  refine r_icmp_le rfl (by unfold inI; omega) (by unfold inI; omega) (fun h2 => ?_) (fun h2 => ?_)
  · skip
    refine r_aload_n rfl rfl ?_
    refine r_iload_n rfl rfl ?_
    refine r_cV2 rfl (so24 hS) (Nat.le_of_ble_eq_true rfl) rfl rfl (w_begins hS hT (by omega) (fun z1 f1 f2 hT1 => ?_))
    have g1 : frT z1 zI := ⟨f1, f2⟩
    have hA1 := AcH_fr hA g1
    refine r_iload_n rfl rfl ?_
    refine r_iconst rfl ?_
    refine r_iadd rfl ?_
    refine r_istore rfl (Nat.le_of_ble_eq_true rfl) ?_
    refine r_iload_n rfl rfl ?_
    refine r_lsw (t := 56) rfl (by unfold inI; omega) rfl ?_
    refine r_aload_n rfl rfl ?_
    refine r_bipush rfl ?_
    refine r_iload_n rfl rfl ?_
    refine r_iload rfl rfl ?_
    refine r_cS4 rfl (by decide) (Nat.le_of_ble_eq_true rfl) rfl rfl (w_rb12 hS hX hA1 hK hT1 (by simp; omega) (by omega) (fun z2 g2 hT2 => ?_))
    refine r_aload_n rfl rfl ?_
    refine r_aload_n rfl rfl ?_
    refine r_iconst rfl ?_
    refine r_cV2 rfl (so24 hS) (Nat.le_of_ble_eq_true rfl) rfl rfl (w_bodyL hS hX (AcH_fr hA1 g2).2.1 hK ?_)
    refine r_iconst rfl ?_
    refine r_iload rfl rfl ?_
    refine r_cS4 rfl (by decide) (Nat.le_of_ble_eq_true rfl) rfl rfl (w_rbL (d := d + 3) hS hX (AcH_fr hA1 g2) hK hT2 (by simp; omega) (by omega) (fun z3 g3 hT3 => ?_))
    refine r_iadd rfl ?_
    refine r_iret rfl ?_
    exact hQ z3 (frT_t g1 (frT_t g2 g3)) (by rw [List.append_assoc, List.append_assoc] at hT3; exact hT3)
  · skip
    exact absurd h2 (by omega)
theorem w_rb40 {X : PX} {d : Nat} {S : SS} {zI zL : ZM} {Q : PQ} (hS : Sk S) (hX : xsOK X) {L : List Int} {m K t x dep : Int} (hA : AcH zI m K t) (hK : 0 ≤ K ∧ K ≤ 3) (hT : TrH zI 24 25 1 L) (hl : L.length < 25) (hd : 0 ≤ dep ∧ dep ≤ 10) (hQ : ∀ z, frT z zI → TrH z 24 25 1 (L ++ (40 :: (meeT K ++ weiT K))) → Q (some (pI ((i3 (meeF K t m x) ^^^ i3 (weiV K t x)).toInt))) S z zL) : wpM X (d + 8) fC_runBody [pR 24, pI (40), pI x, pI dep] S zI zL Q := by
  have l1 := meeT_l K
  refine wp_in (C := c_C_runBody) (ls := [some (pR 24), some (pI (40)), some (pI x), some (pI dep), none]) rfl rfl rfl rfl rfl ?_
  refine r_iload_n rfl rfl ?_
  refine r_bipush rfl ?_
  refine r_icmp_le rfl (by unfold inI; omega) (by unfold inI; omega) (fun h2 => ?_) (fun h2 => ?_)
  · skip
    refine r_aload_n rfl rfl ?_
    refine r_iload_n rfl rfl ?_
    refine r_cV2 rfl (so24 hS) (Nat.le_of_ble_eq_true rfl) rfl rfl (w_begins hS hT (by omega) (fun z1 f1 f2 hT1 => ?_))
    have g1 : frT z1 zI := ⟨f1, f2⟩
    have hA1 := AcH_fr hA g1
    refine r_iload_n rfl rfl ?_
    refine r_iconst rfl ?_
    refine r_iadd rfl ?_
    refine r_istore rfl (Nat.le_of_ble_eq_true rfl) ?_
    refine r_iload_n rfl rfl ?_
    refine r_lsw (t := 86) rfl (by unfold inI; omega) rfl ?_
    refine r_aload_n rfl rfl ?_
    refine r_bipush rfl ?_
    refine r_iload_n rfl rfl ?_
    refine r_iload rfl rfl ?_
    refine r_cS4 rfl (by decide) (Nat.le_of_ble_eq_true rfl) rfl rfl (w_rb12 hS hX hA1 hK hT1 (by simp; omega) (by omega) (fun z2 g2 hT2 => ?_))
    refine r_aload_n rfl rfl ?_
    refine r_aload_n rfl rfl ?_
    refine r_iconst rfl ?_
    refine r_cV2 rfl (so24 hS) (Nat.le_of_ble_eq_true rfl) rfl rfl (w_bodyW hS hX (AcH_fr hA1 g2).2.1 hK ?_)
    refine r_iload_n rfl rfl ?_
    refine r_iload rfl rfl ?_
    refine r_cS4 rfl (by decide) (Nat.le_of_ble_eq_true rfl) rfl rfl (w_rbW (d := d + 1) hS hX (AcH_fr hA1 g2) hK hT2 (by simp; omega) (by omega) (fun z3 g3 hT3 => ?_))
    refine r_ixor rfl ?_
    refine r_iret rfl ?_
    exact hQ z3 (frT_t g1 (frT_t g2 g3)) (by rw [List.append_assoc, List.append_assoc] at hT3; exact hT3)
  · skip
    exact absurd h2 (by omega)
theorem w_rbM {X : PX} {d : Nat} {S : SS} {zI zL : ZM} {Q : PQ} (hS : Sk S) (hX : xsOK X) {L : List Int} {m K t x dep : Int} (hA : AcH zI m K t) (hK : 0 ≤ K ∧ K ≤ 3) (hT : TrH zI 24 25 1 L) (hl : L.length < 25) (hd : 0 ≤ dep ∧ dep ≤ 10) (hQ : ∀ z, frT z zI → TrH z 24 25 1 (L ++ metT K) → Q (some (pI (meeV K t m x))) S z zL) : wpM X (d + 8) fC_runBody [pR 24, pI (xMeets K), pI x, pI dep] S zI zL Q := by
  have hc : K = 0 ∨ K = 1 ∨ K = 2 ∨ K = 3 := by omega
  rcases hc with rfl | rfl | rfl | rfl
  · exact w_rb12 (d := d + 1) hS hX hA hK hT (by omega) (by omega) hQ
  · exact w_rb21 hS hX hA hK hT (by omega) (by omega) hQ
  · exact w_rb21 hS hX hA hK hT (by omega) (by omega) hQ
  · exact w_rb40 hS hX hA hK hT (by omega) (by omega) hQ
