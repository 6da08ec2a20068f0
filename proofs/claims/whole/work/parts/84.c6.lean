/-! BOTH SIDES: sheets -/
def CSh (z z2 : ZM) (s : SA) : Prop := ∀ k : Int, 0 ≤ k → k < 4 → z (176 + 2 * k.toNat) 1 = s.1 k ∧ z (176 + 2 * k.toNat) 2 = s.2.1 k ∧ ∀ i, 0 ≤ i → i < 40 → z2 (176 + 2 * k.toNat + 1) i = s.2.2 k i
theorem CSh_fr {z z' z2 z2' : ZM} {s : SA} (h : CSh z z2 s) (hz : ∀ c, 176 ≤ c → c ≤ 183 → z' c = z c) (hz2 : ∀ c, 176 ≤ c → c ≤ 183 → z2' c = z2 c) : CSh z' z2' s := fun k k0 k1 => by
  rw [hz _ (by omega) (by omega), hz2 _ (by omega) (by omega)]; exact h k k0 k1
theorem CSh_set {z z' z2 z2' : ZM} {s : SA} {k so sz : Int} {it : Int → Int} (h : CSh z z2 s) (k0 : 0 ≤ k) (k1 : k < 4) (hz : ∀ c, c ≠ 176 + 2 * k.toNat → z' c = z c) (hz2 : ∀ c, c ≠ 176 + 2 * k.toNat + 1 → z2' c = z2 c) (e1 : z' (176 + 2 * k.toNat) 1 = so) (e2 : z' (176 + 2 * k.toNat) 2 = sz) (e3 : ∀ i, 0 ≤ i → i < 40 → z2' (176 + 2 * k.toNat + 1) i = it i) : CSh z' z2' (setSA s k so sz it) := fun g g0 g1 => by
  show z' (176 + 2 * g.toNat) 1 = updF s.1 k so g ∧ z' (176 + 2 * g.toNat) 2 = updF s.2.1 k sz g ∧ ∀ i, 0 ≤ i → i < 40 → z2' (176 + 2 * g.toNat + 1) i = (if g = k then it else s.2.2 g) i
  unfold updF
  by_cases e : g = k
  · rw [if_pos e, if_pos e, if_pos e, e]; exact ⟨e1, e2, e3⟩
  · rw [if_neg e, if_neg e, if_neg e, hz _ (by omega), hz2 _ (by omega)]; exact h g g0 g1
def frSc (z' z : ZM) : Prop := ∀ c, (c < 176 ∨ 183 < c) → z' c = z c
theorem frSc_r (z : ZM) : frSc z z := fun _ _ => rfl
def sShe (k so n : Int) : Int := if ¬ ((0 ≤ k ∧ k ≤ 3) ∧ (-1 ≤ so ∧ so ≤ 2)) ∨ (0 ≤ so ∧ 40 < n) then -2 else if 0 ≤ so ∧ n < 0 then -14 else 1
def nShe (s : SA) (k so n : Int) : SA := if ¬ ((0 ≤ k ∧ k ≤ 3) ∧ (-1 ≤ so ∧ so ≤ 2)) ∨ (0 ≤ so ∧ 40 < n) then s else if 0 ≤ so ∧ n < 0 then s else setSA s k so (if so < 0 then 0 else n) (fun _ => 0)
def sCel (s : SA) (k i : Int) : Int := if ¬ (0 ≤ k ∧ k ≤ 3) then -2 else if s.1 k < 0 then -11 else if ¬ (0 ≤ i ∧ i < s.2.1 k) then -12 else 1
def nCel (s : SA) (k i v : Int) : SA := if ¬ (0 ≤ k ∧ k ≤ 3) then s else if s.1 k < 0 then s else if ¬ (0 ≤ i ∧ i < s.2.1 k) then s else setSA s k (s.1 k) (s.2.1 k) (updF (s.2.2 k) i (if s.1 k = 0 then byV v else v))
abbrev cpR (s : SA) (k i q j n : Int) : Prop := 0 ≤ n ∧ 0 ≤ i ∧ 0 ≤ j ∧ i + n ≤ s.2.1 k ∧ j + n ≤ s.2.1 q
def sCop (s : SA) (k i q j n : Int) : Int := if ¬ ((0 ≤ k ∧ k ≤ 3) ∧ (0 ≤ q ∧ q ≤ 3)) then -2 else if s.1 k < 0 ∨ s.1 q < 0 then -11 else if s.1 k ≠ s.1 q then -13 else if ¬ cpR s k i q j n then -12 else n
def nCop (s : SA) (k i q j n : Int) : SA := if ¬ ((0 ≤ k ∧ k ≤ 3) ∧ (0 ≤ q ∧ q ≤ 3)) then s else if s.1 k < 0 ∨ s.1 q < 0 then s else if s.1 k ≠ s.1 q then s else if ¬ cpR s k i q j n then s else setSA s q (s.1 q) (s.2.1 q) (fun t => if j ≤ t ∧ t < j + n then s.2.2 k (i + (t - j)) else s.2.2 q t)
theorem SOK_st2 {s : SA} {k so sz : Int} {it : Int → Int} (h : SOK s) (h1 : -1 ≤ so ∧ so ≤ 2) (h2 : 0 ≤ sz ∧ sz ≤ 40) (h3 : ∀ i, 0 ≤ i → i < 40 → inI (it i)) : SOK (setSA s k so sz it) := fun g g0 g1 => by
  show (-1 ≤ updF s.1 k so g ∧ updF s.1 k so g ≤ 2) ∧ (0 ≤ updF s.2.1 k sz g ∧ updF s.2.1 k sz g ≤ 40) ∧ ∀ i, 0 ≤ i → i < 40 → inI ((if g = k then it else s.2.2 g) i)
  unfold updF
  by_cases e : g = k
  · rw [if_pos e, if_pos e, if_pos e]; exact ⟨h1, h2, h3⟩
  · rw [if_neg e, if_neg e, if_neg e]; exact h g g0 g1
theorem SOK_nShe {s : SA} (h : SOK s) (k so n : Int) : SOK (nShe s k so n) := by
  unfold nShe
  by_cases h1 : ¬ ((0 ≤ k ∧ k ≤ 3) ∧ (-1 ≤ so ∧ so ≤ 2)) ∨ (0 ≤ so ∧ 40 < n)
  · rw [if_pos h1]; exact h
  · rw [if_neg h1]
    by_cases h2 : 0 ≤ so ∧ n < 0
    · rw [if_pos h2]; exact h
    · rw [if_neg h2]
      exact SOK_st2 h (by omega) (by split <;> omega) (fun i _ _ => by unfold inI; omega)
theorem SOK_nCel {s : SA} (h : SOK s) {k i v : Int} (hv : inI v) : SOK (nCel s k i v) := by
  unfold nCel
  by_cases h1 : ¬ (0 ≤ k ∧ k ≤ 3)
  · rw [if_pos h1]; exact h
  · rw [if_neg h1]
    by_cases h2 : s.1 k < 0
    · rw [if_pos h2]; exact h
    · rw [if_neg h2]
      by_cases h3 : ¬ (0 ≤ i ∧ i < s.2.1 k)
      · rw [if_pos h3]; exact h
      · rw [if_neg h3]
        obtain ⟨a1, a2, a3⟩ := h k (by omega) (by omega)
        refine SOK_st2 h a1 a2 (fun t t0 t1 => ?_)
        unfold updF
        split
        · split
          · exact byV_b v
          · exact hv
        · exact a3 t t0 t1
theorem SOK_nCop {s : SA} (h : SOK s) (k i q j n : Int) : SOK (nCop s k i q j n) := by
  unfold nCop
  by_cases h1 : ¬ ((0 ≤ k ∧ k ≤ 3) ∧ (0 ≤ q ∧ q ≤ 3))
  · rw [if_pos h1]; exact h
  · rw [if_neg h1]
    by_cases h2 : s.1 k < 0 ∨ s.1 q < 0
    · rw [if_pos h2]; exact h
    · rw [if_neg h2]
      by_cases h3 : s.1 k ≠ s.1 q
      · rw [if_pos h3]; exact h
      · rw [if_neg h3]
        by_cases h4 : ¬ cpR s k i q j n
        · rw [if_pos h4]; exact h
        · rw [if_neg h4]
          have h4 : cpR s k i q j n := by rcases Decidable.em (cpR s k i q j n) with e | e; exact e; exact absurd e h4
          obtain ⟨a1, a2, a3⟩ := h q (by omega) (by omega)
          obtain ⟨b1, b2, b3⟩ := h k (by omega) (by omega)
          unfold cpR at h4
          refine SOK_st2 h a1 a2 (fun t t0 t1 => ?_)
          split
          · exact b3 _ (by omega) (by omega)
          · exact a3 t t0 t1
theorem y_sheet2 {X : PX} {d : Nat} {S : SS} {zI zL : ZM} {Q : PQ} (hS : Sk S) {s : SA} (hs : MSh zI s) {k so n : Int} (hk : inI k) (hso : inI so) (hn : inI n) (hQ : ∀ z, frS z zI → MSh z (nShe s k so n) → Q (some (pI (sShe k so n))) S z zL) : wpM X (d + 2) fM_sheet [pR 184, pI k, pI so, pI n] S zI zL Q := by
  unfold sShe nShe at hQ
  refine y_sheet hS hs hk hso hn (fun q => ?_) (fun q1 q2 q3 q4 => ?_) (fun q1 q2 q3 z f1 f2 => ?_)
  · rw [if_pos q, if_pos q] at hQ; exact hQ zI (fun _ _ _ _ _ => rfl) hs
  · have x1 : ¬ (¬ ((0 ≤ k ∧ k ≤ 3) ∧ (-1 ≤ so ∧ so ≤ 2)) ∨ (0 ≤ so ∧ 40 < n)) := by omega
    have x2 : (0 ≤ so ∧ n < 0) := ⟨q3, q4⟩
    simp only [if_neg x1, if_pos x2] at hQ
    exact hQ zI (fun _ _ _ _ _ => rfl) hs
  · have x1 : ¬ (¬ ((0 ≤ k ∧ k ≤ 3) ∧ (-1 ≤ so ∧ so ≤ 2)) ∨ (0 ≤ so ∧ 40 < n)) := by omega
    have x2 : ¬ (0 ≤ so ∧ n < 0) := by omega
    simp only [if_neg x1, if_neg x2] at hQ
    exact hQ z f1 f2
theorem y_cell2 {X : PX} {d : Nat} {S : SS} {zI zL : ZM} {Q : PQ} (hS : Sk S) {s : SA} (hs : MSh zI s) (hok : SOK s) {k i v : Int} (hk : inI k) (hi : inI i) (hQ : ∀ z, frS z zI → MSh z (nCel s k i v) → Q (some (pI (sCel s k i))) S z zL) : wpM X (d + 2) fM_cell [pR 184, pI k, pI i, pI v] S zI zL Q := by
  unfold sCel nCel at hQ
  refine y_cell hS hs hok hk hi (fun q => ?_) (fun q1 q2 => ?_) (fun q1 q2 q3 => ?_) (fun q1 q2 q3 z f1 f2 => ?_)
  · rw [if_pos q, if_pos q] at hQ; exact hQ zI (fun _ _ _ _ _ => rfl) hs
  · have x1 : ¬ (¬ (0 ≤ k ∧ k ≤ 3)) := fun k => k q1
    simp only [if_neg x1, if_pos q2] at hQ
    exact hQ zI (fun _ _ _ _ _ => rfl) hs
  · have x1 : ¬ (¬ (0 ≤ k ∧ k ≤ 3)) := fun k => k q1
    have x2 : ¬ (s.1 k < 0) := by omega
    simp only [if_neg x1, if_neg x2, if_pos q3] at hQ
    exact hQ zI (fun _ _ _ _ _ => rfl) hs
  · have x1 : ¬ (¬ (0 ≤ k ∧ k ≤ 3)) := fun k => k q1
    have x2 : ¬ (s.1 k < 0) := by omega
    have x3 : ¬ (¬ (0 ≤ i ∧ i < s.2.1 k)) := fun k => k q3
    simp only [if_neg x1, if_neg x2, if_neg x3] at hQ
    exact hQ z f1 f2
theorem y_copy2 {X : PX} {d : Nat} {S : SS} {zI zL : ZM} {Q : PQ} (hS : Sk S) {s : SA} (hs : MSh zI s) (hok : SOK s) {k i q j n : Int} (hk : inI k) (hi : inI i) (hq : inI q) (hj : inI j) (hn : inI n) (hQ : ∀ z, frS z zI → MSh z (nCop s k i q j n) → Q (some (pI (sCop s k i q j n))) S z zL) : wpM X (d + 2) fM_copy [pR 184, pI k, pI i, pI q, pI j, pI n] S zI zL Q := by
  unfold sCop nCop at hQ
  refine y_copy hS hs hok hk hi hq hj hn (fun q => ?_) (fun q1 q2 q3 => ?_) (fun q1 q2 q3 q4 q5 => ?_) (fun q1 q2 q3 q4 q5 q6 => ?_) (fun q1 q2 q3 q4 q5 q6 z f1 f2 => ?_)
  · rw [if_pos q, if_pos q] at hQ; exact hQ zI (fun _ _ _ _ _ => rfl) hs
  · have x1 : ¬ (¬ ((0 ≤ k ∧ k ≤ 3) ∧ (0 ≤ q ∧ q ≤ 3))) := fun k => k ⟨q1, q2⟩
    simp only [if_neg x1, if_pos q3] at hQ
    exact hQ zI (fun _ _ _ _ _ => rfl) hs
  · have x1 : ¬ (¬ ((0 ≤ k ∧ k ≤ 3) ∧ (0 ≤ q ∧ q ≤ 3))) := fun k => k ⟨q1, q2⟩
    have x2 : ¬ (s.1 k < 0 ∨ s.1 q < 0) := by omega
    simp only [if_neg x1, if_neg x2, if_pos q5] at hQ
    exact hQ zI (fun _ _ _ _ _ => rfl) hs
  · have x1 : ¬ (¬ ((0 ≤ k ∧ k ≤ 3) ∧ (0 ≤ q ∧ q ≤ 3))) := fun k => k ⟨q1, q2⟩
    have x2 : ¬ (s.1 k < 0 ∨ s.1 q < 0) := by omega
    have x3 : ¬ (s.1 k ≠ s.1 q) := fun k => k q5
    have x4 : ¬ cpR s k i q j n := q6
    simp only [if_neg x1, if_neg x2, if_neg x3, if_pos x4] at hQ
    exact hQ zI (fun _ _ _ _ _ => rfl) hs
  · have x1 : ¬ (¬ ((0 ≤ k ∧ k ≤ 3) ∧ (0 ≤ q ∧ q ≤ 3))) := fun k => k ⟨q1, q2⟩
    have x2 : ¬ (s.1 k < 0 ∨ s.1 q < 0) := by omega
    have x3 : ¬ (s.1 k ≠ s.1 q) := fun k => k q5
    have x4 : ¬ (¬ cpR s k i q j n) := fun k => k q6
    simp only [if_neg x1, if_neg x2, if_neg x3, if_neg x4] at hQ
    exact hQ z f1 f2
theorem c_S {S : SS} (hS : Sk S) {k : Int} (h0 : 0 ≤ k) (h1 : k < 4) : isSheet S (176 + 2 * k.toNat) ∧ S.2 3 k = some (176 + 2 * k.toNat) := by
  have h := sk_sheet hS (k := k.toNat) (by omega)
  rw [show ((k.toNat : Nat) : Int) = k by omega] at h
  exact h
theorem zfill_at {z : ZM} {h : Nat} {n v i : Int} (h0 : 0 ≤ i) (h1 : i < n) : zfill z h n v h i = v := by unfold zfill; rw [if_pos ⟨rfl, h0, h1⟩]
theorem c_sheet {X : PX} {d : Nat} {S : SS} {zI zL : ZM} {Q : PQ} (hS : Sk S) {s : SA} (hs : CSh zI zL s) {k so n : Int} (hk : inI k) (hso : inI so) (hn : inI n) (hQ : ∀ z z2, frSc z zI → frSc z2 zL → CSh z z2 (nShe s k so n) → Q (some (pI (sShe k so n))) S z z2) : wpM X (d + 3) fC_sheet [pR 0, pI k, pI so, pI n] S zI zL Q := by
  unfold sShe nShe at hQ
  refine wp_in (C := c_C_sheet) (ls := [some (pR 0), some (pI k), some (pI so), some (pI n)]) rfl rfl rfl rfl rfl ?_
  refine r_iload_n rfl rfl ?_
  refine r_iconst rfl ?_
  refine r_iconst rfl ?_
  refine r_cS3 rfl (by decide) (Nat.le_of_ble_eq_true rfl) rfl rfl (c_within (d := d + 1) hk (by unfold inI; omega) (by unfold inI; omega) (fun k0 k1 => ?_) (fun p0 => ?_))
  · skip
    refine r_if_eq1 rfl ?_
    refine r_iload_n rfl rfl ?_
    refine r_iconst rfl ?_
    refine r_iconst rfl ?_
    refine r_cS3 rfl (by decide) (Nat.le_of_ble_eq_true rfl) rfl rfl (c_within (d := d + 1) hso (by unfold inI; omega) (by unfold inI; omega) (fun s0 s1 => ?_) (fun p0 => ?_))
    · skip
      refine r_if_ne1 rfl ?_
      obtain ⟨hsh, rS⟩ := c_S hS k0 (show k < 4 by omega)
      have hso7 := hsh.1
      refine r_iload_n rfl rfl ?_
      refine r_iconst rfl ?_
      refine r_icmp_ne rfl hso (by unfold inI; omega) (fun h14 => ?_) (fun h14 => ?_)
      · skip
        refine r_iload_n rfl rfl ?_
        refine r_bipush rfl ?_
        refine r_icmp_le rfl hn (by unfold inI; omega) (fun h26 => ?_) (fun h26 => ?_)
        · skip
          refine r_iload_n rfl rfl ?_
          refine r_if_ge rfl hn (fun h30 => ?_) (fun h30 => ?_)
          · skip
            refine r_aload_n rfl rfl ?_
            refine r_getR rfl (so0 hS) (sr0_2 hS) ?_
            refine r_iload_n rfl rfl ?_
            refine r_aald rfl (sw3 hS) (by decide) (by omega) (by omega) rS ?_
            refine r_iload_n rfl rfl ?_
            refine r_iload_n rfl rfl ?_
            refine r_cV3 rfl hso7 (Nat.le_of_ble_eq_true rfl) rfl rfl (w_become hsh ?_)
            refine r_iconst rfl ?_
            refine r_iret rfl ?_
            have x1 : ¬ (¬ ((0 ≤ k ∧ k ≤ 3) ∧ (-1 ≤ so ∧ so ≤ 2)) ∨ (0 ≤ so ∧ 40 < n)) := by omega
            have x2 : ¬ (0 ≤ so ∧ n < 0) := by omega
            simp only [if_neg x1, if_neg x2, if_neg (show ¬ so < 0 by omega)] at hQ
            exact hQ _ _ (fun c hc => by rw [zput_row (by omega), zput_row (by omega)]) (fun c hc => zfill_row (by omega)) (CSh_set hs k0 (by omega) (fun c hc => by rw [zput_row hc, zput_row hc]) (fun c hc => zfill_row hc) (by rw [zput_off (by decide), zput_at]) zput_at (fun i i0 i1 => zfill_at i0 i1))
          · skip
            refine r_bipush rfl ?_
            refine r_iret rfl ?_
            have x1 : ¬ (¬ ((0 ≤ k ∧ k ≤ 3) ∧ (-1 ≤ so ∧ so ≤ 2)) ∨ (0 ≤ so ∧ 40 < n)) := by omega
            have x2 : (0 ≤ so ∧ n < 0) := by omega
            simp only [if_neg x1, if_pos x2] at hQ
            exact hQ zI zL (frSc_r _) (frSc_r _) hs
        · skip
          refine r_bipush rfl ?_
          refine r_iret rfl ?_
          have x1 : (¬ ((0 ≤ k ∧ k ≤ 3) ∧ (-1 ≤ so ∧ so ≤ 2)) ∨ (0 ≤ so ∧ 40 < n)) := by omega
          simp only [if_pos x1] at hQ
          exact hQ zI zL (frSc_r _) (frSc_r _) hs
      · skip
        refine r_aload_n rfl rfl ?_
        refine r_getR rfl (so0 hS) (sr0_2 hS) ?_
        refine r_iload_n rfl rfl ?_
        refine r_aald rfl (sw3 hS) (by decide) (by omega) (by omega) rS ?_
        refine r_iconst rfl ?_
        refine r_iconst rfl ?_
        refine r_cV3 rfl hso7 (Nat.le_of_ble_eq_true rfl) rfl rfl (w_become hsh ?_)
        refine r_iconst rfl ?_
        refine r_iret rfl ?_
        have x1 : ¬ (¬ ((0 ≤ k ∧ k ≤ 3) ∧ (-1 ≤ so ∧ so ≤ 2)) ∨ (0 ≤ so ∧ 40 < n)) := by omega
        have x2 : ¬ (0 ≤ so ∧ n < 0) := by omega
        simp only [if_neg x1, if_neg x2, if_pos (show so < 0 by omega)] at hQ
        rw [h14] at hQ
        exact hQ _ _ (fun c hc => by rw [zput_row (by omega), zput_row (by omega)]) (fun c hc => zfill_row (by omega)) (CSh_set hs k0 (by omega) (fun c hc => by rw [zput_row hc, zput_row hc]) (fun c hc => zfill_row hc) (by rw [zput_off (by decide), zput_at]) zput_at (fun i i0 i1 => zfill_at i0 i1))
    · skip
      refine r_if_ne0 rfl ?_
      refine r_bipush rfl ?_
      refine r_iret rfl ?_
      have x1 : (¬ ((0 ≤ k ∧ k ≤ 3) ∧ (-1 ≤ so ∧ so ≤ 2)) ∨ (0 ≤ so ∧ 40 < n)) := by omega
      simp only [if_pos x1] at hQ
      exact hQ zI zL (frSc_r _) (frSc_r _) hs
  · skip
    refine r_if_eq0 rfl ?_
    refine r_bipush rfl ?_
    refine r_iret rfl ?_
    have x1 : (¬ ((0 ≤ k ∧ k ≤ 3) ∧ (-1 ≤ so ∧ so ≤ 2)) ∨ (0 ≤ so ∧ 40 < n)) := by omega
    simp only [if_pos x1] at hQ
    exact hQ zI zL (frSc_r _) (frSc_r _) hs
set_option maxHeartbeats 1000000 in
theorem c_cell {X : PX} {d : Nat} {S : SS} {zI zL : ZM} {Q : PQ} (hS : Sk S) {s : SA} (hs : CSh zI zL s) (hok : SOK s) {k i v : Int} (hk : inI k) (hi : inI i) (hv : inI v) (hQ : ∀ z2, frSc z2 zL → CSh zI z2 (nCel s k i v) → Q (some (pI (sCel s k i))) S zI z2) : wpM X (d + 2) fC_cell [pR 0, pI k, pI i, pI v] S zI zL Q := by
  unfold sCel nCel at hQ
  refine wp_in (C := c_C_cell) (ls := [some (pR 0), some (pI k), some (pI i), some (pI v), none]) rfl rfl rfl rfl rfl ?_
  refine r_iload_n rfl rfl ?_
  refine r_iconst rfl ?_
  refine r_iconst rfl ?_
  refine r_cS3 rfl (by decide) (Nat.le_of_ble_eq_true rfl) rfl rfl (c_within (d := d) hk (by unfold inI; omega) (by unfold inI; omega) (fun k0 k1 => ?_) (fun p0 => ?_))
  · skip
    refine r_if_ne1 rfl ?_
    obtain ⟨hsh, rS⟩ := c_S hS k0 (show k < 4 by omega)
    obtain ⟨hso7, hsr, hs0⟩ := hsh
    obtain ⟨g1, g2, g3⟩ := hs k k0 (by omega)
    obtain ⟨b1, b2, b3⟩ := hok k k0 (by omega)
    have x1 : ¬ (¬ (0 ≤ k ∧ k ≤ 3)) := fun q => q ⟨k0, k1⟩
    simp only [if_neg x1] at hQ
    refine r_aload_n rfl rfl ?_
    refine r_getR rfl (so0 hS) (sr0_2 hS) ?_
    refine r_iload_n rfl rfl ?_
    refine r_aald rfl (sw3 hS) (by decide) (by omega) (by omega) rS ?_
    refine r_astore rfl (Nat.le_of_ble_eq_true rfl) ?_
    refine r_aload rfl rfl ?_
    refine r_getI rfl hso7 ?_
    rw [g1]
    refine r_iconst rfl ?_
    refine r_icmp_ne rfl (by unfold inI; omega) (by unfold inI; omega) (fun h15 => ?_) (fun h15 => ?_)
    · skip
      refine r_iload_n rfl rfl ?_
      refine r_iconst rfl ?_
      refine r_aload rfl rfl ?_
      refine r_getI rfl hso7 ?_
      rw [g2]
      refine r_iconst rfl ?_
      refine r_isub rfl ?_
      refine r_cS3 rfl (by decide) (Nat.le_of_ble_eq_true rfl) rfl rfl (c_within (d := d) hi (by unfold inI; omega) (by unfold inI; omega) (fun i0 i1 => ?_) (fun p0 => ?_))
      · skip
        refine r_if_ne1 rfl ?_
        refine r_aload rfl rfl ?_
        refine r_getR rfl hso7 hs0 ?_
        refine r_iload_n rfl rfl ?_
        refine r_aload rfl rfl ?_
        refine r_getI rfl hso7 ?_
        rw [g1]
        refine r_if_ne rfl (by unfold inI; omega) (fun h33 => ?_) (fun h33 => ?_)
        · skip
          refine r_iload_n rfl rfl ?_
          refine r_i2l rfl hv ?_
          refine r_last rfl hsr (by omega) (by omega) ?_
          refine r_iconst rfl ?_
          refine r_iret rfl ?_
          have x2 : ¬ (s.1 k < 0) := by omega
          have x3 : ¬ (¬ (0 ≤ i ∧ i < s.2.1 k)) := by omega
          simp only [if_neg x2, if_neg x3, if_neg h33] at hQ
          exact hQ _ (fun c hc => zput_row (by omega)) (CSh_set hs k0 (by omega) (fun c hc => rfl) (fun c hc => zput_row hc) g1 g2 (fun t t0 t1 => by
            unfold updF
            by_cases e : t = i
            · rw [if_pos e, e, zput_at]
            · rw [if_neg e, zput_off e]; exact g3 t t0 t1))
        · skip
          refine r_iload_n rfl rfl ?_
          refine r_i2b rfl ?_
          have bv := byV_b v
          refine r_i2l rfl (byV_b v) ?_
          refine r_goto rfl ?_
          refine r_last rfl hsr (by omega) (by omega) ?_
          refine r_iconst rfl ?_
          refine r_iret rfl ?_
          have x2 : ¬ (s.1 k < 0) := by omega
          have x3 : ¬ (¬ (0 ≤ i ∧ i < s.2.1 k)) := by omega
          simp only [if_neg x2, if_neg x3, if_pos h33] at hQ
          exact hQ _ (fun c hc => zput_row (by omega)) (CSh_set hs k0 (by omega) (fun c hc => rfl) (fun c hc => zput_row hc) g1 g2 (fun t t0 t1 => by
            unfold updF
            by_cases e : t = i
            · rw [if_pos e, e, zput_at]; rfl
            · rw [if_neg e, zput_off e]; exact g3 t t0 t1))
      · skip
        refine r_if_ne0 rfl ?_
        refine r_bipush rfl ?_
        refine r_iret rfl ?_
        have x2 : ¬ (s.1 k < 0) := by omega
        have x3 : ¬ (0 ≤ i ∧ i < s.2.1 k) := by omega
        simp only [if_neg x2, if_pos x3] at hQ
        exact hQ zL (frSc_r _) hs
    · skip
      refine r_bipush rfl ?_
      refine r_iret rfl ?_
      have x2 : s.1 k < 0 := by omega
      simp only [if_pos x2] at hQ
      exact hQ zL (frSc_r _) hs
  · skip
    refine r_if_ne0 rfl ?_
    refine r_bipush rfl ?_
    refine r_iret rfl ?_
    rw [if_pos p0, if_pos p0] at hQ; exact hQ zL (frSc_r _) hs
set_option maxHeartbeats 1000000 in
theorem c_copy {X : PX} {d : Nat} {S : SS} {zI zL : ZM} {Q : PQ} (hS : Sk S) {s : SA} (hs : CSh zI zL s) (hok : SOK s) {k i q j n : Int} (hk : inI k) (hi : inI i) (hq : inI q) (hj : inI j) (hn : inI n) (hQ : ∀ z2, frSc z2 zL → CSh zI z2 (nCop s k i q j n) → Q (some (pI (sCop s k i q j n))) S zI z2) : wpM X (d + 2) fC_copy [pR 0, pI k, pI i, pI q, pI j, pI n] S zI zL Q := by
  unfold sCop nCop at hQ
  refine wp_in (C := c_C_copy) (ls := [some (pR 0), some (pI k), some (pI i), some (pI q), some (pI j), some (pI n), none, none]) rfl rfl rfl rfl rfl ?_
  refine r_iload_n rfl rfl ?_
  refine r_iconst rfl ?_
  refine r_iconst rfl ?_
  refine r_cS3 rfl (by decide) (Nat.le_of_ble_eq_true rfl) rfl rfl (c_within (d := d) hk (by unfold inI; omega) (by unfold inI; omega) (fun k0 k1 => ?_) (fun p0 => ?_))
  · skip
    refine r_if_eq1 rfl ?_
    refine r_iload_n rfl rfl ?_
    refine r_iconst rfl ?_
    refine r_iconst rfl ?_
    refine r_cS3 rfl (by decide) (Nat.le_of_ble_eq_true rfl) rfl rfl (c_within (d := d) hq (by unfold inI; omega) (by unfold inI; omega) (fun q0 q1 => ?_) (fun p0 => ?_))
    · skip
      refine r_if_ne1 rfl ?_
      obtain ⟨hshk, rSk⟩ := c_S hS k0 (show k < 4 by omega)
      obtain ⟨hshq, rSq⟩ := c_S hS q0 (show q < 4 by omega)
      have hokk := hshk.1
      have hokq := hshq.1
      obtain ⟨g1, g2, g3⟩ := hs k k0 (by omega)
      obtain ⟨g1q, g2q, g3q⟩ := hs q q0 (by omega)
      obtain ⟨b1, b2, b3⟩ := hok k k0 (by omega)
      obtain ⟨b1q, b2q, b3q⟩ := hok q q0 (by omega)
      have x1' : ¬ (¬ ((0 ≤ k ∧ k ≤ 3) ∧ (0 ≤ q ∧ q ≤ 3))) := fun e => e ⟨⟨k0, k1⟩, q0, q1⟩
      simp only [if_neg x1'] at hQ
      refine r_aload_n rfl rfl ?_
      refine r_getR rfl (so0 hS) (sr0_2 hS) ?_
      refine r_iload_n rfl rfl ?_
      refine r_aald rfl (sw3 hS) (by decide) (by omega) (by omega) rSk ?_
      refine r_astore rfl (Nat.le_of_ble_eq_true rfl) ?_
      refine r_aload_n rfl rfl ?_
      refine r_getR rfl (so0 hS) (sr0_2 hS) ?_
      refine r_iload_n rfl rfl ?_
      refine r_aald rfl (sw3 hS) (by decide) (by omega) (by omega) rSq ?_
      refine r_astore rfl (Nat.le_of_ble_eq_true rfl) ?_
      refine r_aload rfl rfl ?_
      refine r_getI rfl hokk ?_
      rw [g1]
      refine r_iconst rfl ?_
      refine r_icmp_eq rfl (by unfold inI; omega) (by unfold inI; omega) (fun h25 => ?_) (fun h25 => ?_)
      · skip
        refine r_bipush rfl ?_
        refine r_iret rfl ?_
        have z2 : s.1 k < 0 ∨ s.1 q < 0 := by omega
        simp only [if_pos z2] at hQ
        exact hQ zL (frSc_r _) hs
      · skip
        refine r_aload rfl rfl ?_
        refine r_getI rfl hokq ?_
        rw [g1q]
        refine r_iconst rfl ?_
        refine r_icmp_ne rfl (by unfold inI; omega) (by unfold inI; omega) (fun h29 => ?_) (fun h29 => ?_)
        · skip
          refine r_aload rfl rfl ?_
          refine r_getI rfl hokk ?_
          rw [g1]
          refine r_aload rfl rfl ?_
          refine r_getI rfl hokq ?_
          rw [g1q]
          refine r_icmp_eq rfl (by unfold inI; omega) (by unfold inI; omega) (fun h36 => ?_) (fun h36 => ?_)
          · skip
            refine r_aload rfl rfl ?_
            refine r_iload_n rfl rfl ?_
            refine r_iload rfl rfl ?_
            refine r_cV3 rfl hokk (Nat.le_of_ble_eq_true rfl) rfl rfl (w_sholds hshk hi hn (by rw [g2]; exact b2) (fun x1 x2 x3 => ?_) (fun x0 => ?_))
            · skip
              
              refine r_if_eq1 rfl ?_
              refine r_aload rfl rfl ?_
              refine r_iload rfl rfl ?_
              refine r_iload rfl rfl ?_
              refine r_cV3 rfl hokq (Nat.le_of_ble_eq_true rfl) rfl rfl (w_sholds hshq hj hn (by rw [g2q]; exact b2q) (fun y1 y2 y3 => ?_) (fun x0 => ?_))
              · skip
                refine r_if_ne1 rfl ?_
                rw [g2] at x3
                rw [g2q] at y3
                refine r_aload rfl rfl ?_
                refine r_getR rfl hokk hshk.2.2 ?_
                refine r_iload_n rfl rfl ?_
                refine r_aload rfl rfl ?_
                refine r_getR rfl hokq hshq.2.2 ?_
                refine r_iload rfl rfl ?_
                refine r_iload rfl rfl ?_
                refine r_acopyL rfl hshk.2.1 hshq.2.1 (Nat.le_of_ble_eq_true rfl) x2 y2 x1 (by omega) (by omega) ?_
                refine r_iload rfl rfl ?_
                refine r_iret rfl ?_
                have hcp : cpR s k i q j n := ⟨x1, x2, y2, x3, y3⟩
                have z2 : ¬ (s.1 k < 0 ∨ s.1 q < 0) := by omega
                have z3 : ¬ (s.1 k ≠ s.1 q) := by omega
                have z4 : ¬ (¬ cpR s k i q j n) := fun e => e hcp
                simp only [if_neg z2, if_neg z3, if_neg z4] at hQ
                have zr : ∀ (f : Int → Int) (c : Nat), c ≠ 176 + 2 * q.toNat + 1 → zrow zL (176 + 2 * q.toNat + 1) f c = zL c := fun f c hc => by funext t; unfold zrow; rw [if_neg hc]
                refine hQ _ (fun c hc => zr _ c (by omega)) (CSh_set hs q0 (by omega) (fun c hc => rfl) (fun c hc => zr _ c hc) g1q g2q (fun t t0 t1 => ?_))
                unfold zrow cpI
                rw [if_pos rfl]
                by_cases e : j ≤ t ∧ t < j + n
                · rw [if_pos e, if_pos e]; exact g3 _ (by omega) (by omega)
                · rw [if_neg e, if_neg e]; exact g3q t t0 t1
              · skip
                refine r_if_ne0 rfl ?_
                refine r_bipush rfl ?_
                refine r_iret rfl ?_
                rw [g2q] at x0
                have z2 : ¬ (s.1 k < 0 ∨ s.1 q < 0) := by omega
                have z3 : ¬ (s.1 k ≠ s.1 q) := by omega
                have z4 : ¬ cpR s k i q j n := fun e => by unfold cpR at e; omega
                simp only [if_neg z2, if_neg z3, if_pos z4] at hQ
                exact hQ zL (frSc_r _) hs
            · skip
              
              refine r_if_eq0 rfl ?_
              refine r_bipush rfl ?_
              refine r_iret rfl ?_
              rw [g2] at x0
              have z2 : ¬ (s.1 k < 0 ∨ s.1 q < 0) := by omega
              have z3 : ¬ (s.1 k ≠ s.1 q) := by omega
              have z4 : ¬ cpR s k i q j n := fun e => by unfold cpR at e; omega
              simp only [if_neg z2, if_neg z3, if_pos z4] at hQ
              exact hQ zL (frSc_r _) hs
          · skip
            refine r_bipush rfl ?_
            refine r_iret rfl ?_
            have z2 : ¬ (s.1 k < 0 ∨ s.1 q < 0) := by omega
            have z3 : s.1 k ≠ s.1 q := h36
            simp only [if_neg z2, if_pos z3] at hQ
            exact hQ zL (frSc_r _) hs
        · skip
          refine r_bipush rfl ?_
          refine r_iret rfl ?_
          have z2 : s.1 k < 0 ∨ s.1 q < 0 := by omega
          simp only [if_pos z2] at hQ
          exact hQ zL (frSc_r _) hs
    · skip
      refine r_if_ne0 rfl ?_
      refine r_bipush rfl ?_
      refine r_iret rfl ?_
      rw [if_pos (fun e => p0 e.2), if_pos (fun e => p0 e.2)] at hQ; exact hQ zL (frSc_r _) hs
  · skip
    refine r_if_eq0 rfl ?_
    refine r_bipush rfl ?_
    refine r_iret rfl ?_
    rw [if_pos (fun e => p0 e.1), if_pos (fun e => p0 e.1)] at hQ; exact hQ zL (frSc_r _) hs
