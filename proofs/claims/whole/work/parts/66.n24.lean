/-! THE REFERENCE: copies of sheets -/
set_option maxHeartbeats 2000000 in
theorem y_copy {X : PX} {d : Nat} {S : SS} {zI zL : ZM} {Q : PQ} (hS : Sk S) {s : SA} (hs : MSh zI s) (hok : SOK s) {k i o j n : Int} (hk : inI k) (hi : inI i) (ho : inI o) (hj : inI j) (hn : inI n) (hQ0 : ¬ ((0 ≤ k ∧ k ≤ 3) ∧ (0 ≤ o ∧ o ≤ 3)) → Q (some (pI (-2))) S zI zL) (hQ1 : (0 ≤ k ∧ k ≤ 3) → (0 ≤ o ∧ o ≤ 3) → (s.1 k < 0 ∨ s.1 o < 0) → Q (some (pI (-11))) S zI zL) (hQ2 : (0 ≤ k ∧ k ≤ 3) → (0 ≤ o ∧ o ≤ 3) → 0 ≤ s.1 k → 0 ≤ s.1 o → s.1 k ≠ s.1 o → Q (some (pI (-13))) S zI zL) (hQ3 : (0 ≤ k ∧ k ≤ 3) → (0 ≤ o ∧ o ≤ 3) → 0 ≤ s.1 k → 0 ≤ s.1 o → s.1 k = s.1 o → ¬ (0 ≤ n ∧ 0 ≤ i ∧ 0 ≤ j ∧ i + n ≤ s.2.1 k ∧ j + n ≤ s.2.1 o) → Q (some (pI (-12))) S zI zL)
    (hQ4 : (0 ≤ k ∧ k ≤ 3) → (0 ≤ o ∧ o ≤ 3) → 0 ≤ s.1 k → 0 ≤ s.1 o → s.1 k = s.1 o → (0 ≤ n ∧ 0 ≤ i ∧ 0 ≤ j ∧ i + n ≤ s.2.1 k ∧ j + n ≤ s.2.1 o) → ∀ z, frS z zI → MSh z (setSA s o (s.1 o) (s.2.1 o) (fun t => if j ≤ t ∧ t < j + n then s.2.2 k (i + (t - j)) else s.2.2 o t)) → Q (some (pI n)) S z zL) : wpM X (d + 2) fM_copy [pR 184, pI k, pI i, pI o, pI j, pI n] S zI zL Q := by
  have main : (0 ≤ k ∧ k ≤ 3) → (0 ≤ o ∧ o ≤ 3) → 0 ≤ s.1 k → 0 ≤ s.1 o → s.1 k = s.1 o → (0 ≤ n ∧ 0 ≤ i ∧ 0 ≤ j ∧ i + n ≤ s.2.1 k ∧ j + n ≤ s.2.1 o) → Run X (d + 1) c_M_copy 61 [some (pR 184), some (pI k), some (pI i), some (pI o), some (pI j), some (pI n), none] [] S zI zL 0 0 Q := by
    intro bk bo c1 c2 c3 c4
    obtain ⟨-, hz1, hit⟩ := hs k bk.1 (by omega)
    obtain ⟨-, ⟨-, kz⟩, -⟩ := hok k bk.1 (by omega)
    obtain ⟨-, ⟨-, oz⟩, -⟩ := hok o bo.1 (by omega)
    have lp2 : ∀ u : Int, u ≤ n → 0 ≤ u → ∀ z : ZM, (∀ c, c ≠ 219 → c ≠ 220 → z c = zI c) → (∀ t, 0 ≤ t → t < n → z 220 t = s.2.2 k (i + t)) → (∀ g, 0 ≤ g → g < 160 → z 219 g = if 40 * o + j ≤ g ∧ g < 40 * o + j + u then s.2.2 k (i + (g - (40 * o + j))) else zI 219 g) → Run X (d + 1) c_M_copy 84 [some (pR 184), some (pI k), some (pI i), some (pI o), some (pI j), some (pI n), some (pI u)] [] S z zL 0 0 Q := by
      refine loop_up _ n (fun u hu ih u0 z hz ha hb => ?_)
      refine r_iload rfl rfl ?_
      refine r_iload rfl rfl ?_
      refine r_icmp_ge rfl (by unfold inI; omega) hn (fun h86 => ?_) (fun h86 => ?_)
      · skip
        refine r_iload rfl rfl ?_
        refine r_iret rfl ?_
        refine hQ4 bk bo c1 c2 c3 c4 z (fun c d0 d1 d2 d3 => hz c d2 d3) (fun g g0 g1 => ?_)
        obtain ⟨q1, q2, q3⟩ := hs g g0 g1
        show z 217 g = updF s.1 o (s.1 o) g ∧ z 218 g = updF s.2.1 o (s.2.1 o) g ∧ ∀ t, 0 ≤ t → t < 40 → z 219 (40 * g + t) = (if g = o then (fun t => if j ≤ t ∧ t < j + n then s.2.2 k (i + (t - j)) else s.2.2 o t) else s.2.2 g) t
        rw [hz 217 (by decide) (by decide), hz 218 (by decide) (by decide)]
        unfold updF
        by_cases e : g = o
        · rw [if_pos e, if_pos e, if_pos e]
          subst e
          refine ⟨q1, q2, fun t t0 t1 => ?_⟩
          rw [hb _ (by omega) (by omega)]
          show _ = if j ≤ t ∧ t < j + n then s.2.2 k (i + (t - j)) else s.2.2 g t
          by_cases e2 : j ≤ t ∧ t < j + n
          · rw [if_pos e2, if_pos (by omega), show 40 * g + t - (40 * g + j) = t - j by omega]
          · rw [if_neg e2, if_neg (by omega)]; exact q3 t t0 t1
        · rw [if_neg e, if_neg e, if_neg e]
          refine ⟨q1, q2, fun t t0 t1 => ?_⟩
          rw [hb _ (by omega) (by omega), if_neg (by omega)]; exact q3 t t0 t1
      · skip
        refine r_aload_n rfl rfl ?_
        refine r_getR rfl (so184 hS) (sr184_53 hS) ?_
        refine r_bipush rfl ?_
        refine r_iload_n rfl rfl ?_
        refine r_imul rfl ?_
        refine r_iload rfl rfl ?_
        refine r_iadd rfl ?_
        refine r_iload rfl rfl ?_
        refine r_iadd rfl ?_
        refine r_aload_n rfl rfl ?_
        refine r_getR rfl (so184 hS) (sr184_54 hS) ?_
        refine r_iload rfl rfl ?_
        refine r_iald rfl (sw220 hS) (by omega) (by omega) ?_
        rw [ha u u0 (by omega)]
        refine r_iast rfl (sw219 hS) (by omega) (by omega) ?_
        refine r_iinc rfl rfl ?_
        refine r_goto rfl ?_
        refine ih (by omega) (by omega) _ (fun c c0 c1 => by rw [zput_row c0]; exact hz c c0 c1) (fun t t0 t1 => by rw [zput_row (by decide)]; exact ha t t0 t1) (fun g g0 g1 => ?_)
        by_cases e : g = 40 * o + j + u
        · rw [e, zput_at, if_pos (by omega)]
          rw [show i + (40 * o + j + u - (40 * o + j)) = i + u by omega]
        · rw [zput_off e, hb g g0 g1]
          by_cases e2 : 40 * o + j ≤ g ∧ g < 40 * o + j + u
          · rw [if_pos e2, if_pos (by omega)]
          · rw [if_neg e2, if_neg (by omega)]
    have lp1 : ∀ u : Int, u ≤ n → 0 ≤ u → ∀ z : ZM, (∀ c, c ≠ 220 → z c = zI c) → (∀ t, 0 ≤ t → t < u → z 220 t = s.2.2 k (i + t)) → Run X (d + 1) c_M_copy 63 [some (pR 184), some (pI k), some (pI i), some (pI o), some (pI j), some (pI n), some (pI u)] [] S z zL 0 0 Q := by
      refine loop_up _ n (fun u hu ih u0 z hz ha => ?_)
      refine r_iload rfl rfl ?_
      refine r_iload rfl rfl ?_
      refine r_icmp_ge rfl (by unfold inI; omega) hn (fun h65 => ?_) (fun h65 => ?_)
      · skip
        refine r_iconst rfl ?_
        refine r_istore rfl (Nat.le_of_ble_eq_true rfl) ?_
        exact lp2 0 c4.1 (Int.le_refl _) z (fun c c0 c1 => hz c c1) (fun t t0 t1 => ha t t0 (by omega)) (fun g g0 g1 => by rw [if_neg (by omega), hz 219 (by decide)])
      · skip
        refine r_aload_n rfl rfl ?_
        refine r_getR rfl (so184 hS) (sr184_54 hS) ?_
        refine r_iload rfl rfl ?_
        refine r_aload_n rfl rfl ?_
        refine r_getR rfl (so184 hS) (sr184_53 hS) ?_
        refine r_bipush rfl ?_
        refine r_iload_n rfl rfl ?_
        refine r_imul rfl ?_
        refine r_iload_n rfl rfl ?_
        refine r_iadd rfl ?_
        refine r_iload rfl rfl ?_
        refine r_iadd rfl ?_
        refine r_iald rfl (sw219 hS) (by omega) (by omega) ?_
        rw [hz 219 (by decide), show 40 * k + i + u = 40 * k + (i + u) by omega, hit (i + u) (by omega) (by omega)]
        refine r_iast rfl (sw220 hS) (by omega) (by omega) ?_
        refine r_iinc rfl rfl ?_
        refine r_goto rfl ?_
        refine ih (by omega) (by omega) _ (fun c c0 => by rw [zput_row c0]; exact hz c c0) (fun t t0 t1 => ?_)
        by_cases e : t = u
        · rw [e, zput_at]
        · rw [zput_off e]; exact ha t t0 (by omega)
    refine r_iconst rfl ?_
    refine r_istore rfl (Nat.le_of_ble_eq_true rfl) ?_
    exact lp1 0 c4.1 (Int.le_refl _) zI (fun _ _ => rfl) (fun t t0 t1 => by omega)
  refine wp_in (C := c_M_copy) (ls := [some (pR 184), some (pI k), some (pI i), some (pI o), some (pI j), some (pI n), none]) rfl rfl rfl rfl rfl ?_
  refine r_aload_n rfl rfl ?_
  refine r_iload_n rfl rfl ?_
  refine r_iconst rfl ?_
  refine r_iconst rfl ?_
  refine r_cV4 rfl (so184 hS) (Nat.le_of_ble_eq_true rfl) rfl rfl (x_in hS hk (by unfold inI; omega) (by unfold inI; omega) (fun p1 p2 => ?_) (fun p0 => ?_))
  · skip
    refine r_if_eq1 rfl ?_
    refine r_aload_n rfl rfl ?_
    refine r_iload_n rfl rfl ?_
    refine r_iconst rfl ?_
    refine r_iconst rfl ?_
    refine r_cV4 rfl (so184 hS) (Nat.le_of_ble_eq_true rfl) rfl rfl (x_in hS ho (by unfold inI; omega) (by unfold inI; omega) (fun p3 p4 => ?_) (fun p0 => ?_))
    · skip
      refine r_if_ne1 rfl ?_
      obtain ⟨k1, k2, -⟩ := hs k p1 (by omega)
      obtain ⟨o1, o2, -⟩ := hs o p3 (by omega)
      obtain ⟨kb1, kb2, -⟩ := hok k p1 (by omega)
      obtain ⟨ob1, ob2, -⟩ := hok o p3 (by omega)
      have hn2 := hn
      unfold inI at hn2
      refine r_aload_n rfl rfl ?_
      refine r_getR rfl (so184 hS) (sr184_51 hS) ?_
      refine r_iload_n rfl rfl ?_
      refine r_iald rfl (sw217 hS) (by omega) (by omega) ?_
      rw [k1]
      refine r_if_lt rfl (by unfold inI; omega) (fun h18 => ?_) (fun h18 => ?_)
      · skip
        refine r_bipush rfl ?_
        refine r_iret rfl ?_
        exact hQ1 ⟨p1, p2⟩ ⟨p3, p4⟩ (by omega)
      · skip
        refine r_aload_n rfl rfl ?_
        refine r_getR rfl (so184 hS) (sr184_51 hS) ?_
        refine r_iload_n rfl rfl ?_
        refine r_iald rfl (sw217 hS) (by omega) (by omega) ?_
        rw [o1]
        refine r_if_ge rfl (by unfold inI; omega) (fun h23 => ?_) (fun h23 => ?_)
        · skip
          refine r_aload_n rfl rfl ?_
          refine r_getR rfl (so184 hS) (sr184_51 hS) ?_
          refine r_iload_n rfl rfl ?_
          refine r_iald rfl (sw217 hS) (by omega) (by omega) ?_
          rw [k1]
          refine r_aload_n rfl rfl ?_
          refine r_getR rfl (so184 hS) (sr184_51 hS) ?_
          refine r_iload_n rfl rfl ?_
          refine r_iald rfl (sw217 hS) (by omega) (by omega) ?_
          rw [o1]
          refine r_icmp_eq rfl (by unfold inI; omega) (by unfold inI; omega) (fun h34 => ?_) (fun h34 => ?_)
          · skip
            refine r_iload rfl rfl ?_
            refine r_if_lt rfl hn (fun h38 => ?_) (fun h38 => ?_)
            · skip
              refine r_bipush rfl ?_
              refine r_iret rfl ?_
              exact hQ3 ⟨p1, p2⟩ ⟨p3, p4⟩ (by omega) (by omega) (by omega) (by omega)
            · skip
              refine r_iload_n rfl rfl ?_
              refine r_if_lt rfl hi (fun h40 => ?_) (fun h40 => ?_)
              · skip
                refine r_bipush rfl ?_
                refine r_iret rfl ?_
                exact hQ3 ⟨p1, p2⟩ ⟨p3, p4⟩ (by omega) (by omega) (by omega) (by omega)
              · skip
                refine r_iload rfl rfl ?_
                refine r_if_lt rfl hj (fun h42 => ?_) (fun h42 => ?_)
                · skip
                  refine r_bipush rfl ?_
                  refine r_iret rfl ?_
                  exact hQ3 ⟨p1, p2⟩ ⟨p3, p4⟩ (by omega) (by omega) (by omega) (by omega)
                · skip
                  refine r_iload_n rfl rfl ?_
                  refine r_aload_n rfl rfl ?_
                  refine r_getR rfl (so184 hS) (sr184_52 hS) ?_
                  refine r_iload_n rfl rfl ?_
                  refine r_iald rfl (sw218 hS) (by omega) (by omega) ?_
                  rw [k2]
                  refine r_iload rfl rfl ?_
                  refine r_isub rfl ?_
                  refine r_icmp_gt rfl hi (by unfold inI; omega) (fun h50 => ?_) (fun h50 => ?_)
                  · skip
                    refine r_bipush rfl ?_
                    refine r_iret rfl ?_
                    exact hQ3 ⟨p1, p2⟩ ⟨p3, p4⟩ (by omega) (by omega) (by omega) (by omega)
                  · skip
                    refine r_iload rfl rfl ?_
                    refine r_aload_n rfl rfl ?_
                    refine r_getR rfl (so184 hS) (sr184_52 hS) ?_
                    refine r_iload_n rfl rfl ?_
                    refine r_iald rfl (sw218 hS) (by omega) (by omega) ?_
                    rw [o2]
                    refine r_iload rfl rfl ?_
                    refine r_isub rfl ?_
                    refine r_icmp_le rfl hj (by unfold inI; omega) (fun h58 => ?_) (fun h58 => ?_)
                    · skip
                      exact main ⟨p1, p2⟩ ⟨p3, p4⟩ (by omega) (by omega) (by omega) ⟨by omega, by omega, by omega, by omega, by omega⟩
                    · skip
                      refine r_bipush rfl ?_
                      refine r_iret rfl ?_
                      exact hQ3 ⟨p1, p2⟩ ⟨p3, p4⟩ (by omega) (by omega) (by omega) (by omega)
          · skip
            refine r_bipush rfl ?_
            refine r_iret rfl ?_
            exact hQ2 ⟨p1, p2⟩ ⟨p3, p4⟩ (by omega) (by omega) (by omega)
        · skip
          refine r_bipush rfl ?_
          refine r_iret rfl ?_
          exact hQ1 ⟨p1, p2⟩ ⟨p3, p4⟩ (by omega)
    · skip
      refine r_if_ne0 rfl ?_
      refine r_bipush rfl ?_
      refine r_iret rfl ?_
      exact hQ0 (fun q => p0 q.2)
  · skip
    refine r_if_eq0 rfl ?_
    refine r_bipush rfl ?_
    refine r_iret rfl ?_
    exact hQ0 (fun q => p0 q.1)
