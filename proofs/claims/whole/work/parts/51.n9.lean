/-! THE REFERENCE: a corner kept, all corners -/
def mvC (z z2 : ZM) (s : KS) (k : Int) : Prop := ∀ t, 0 ≤ t → (t < k → (z2 204 (4 * t) = s.2.1 t ∧ z2 204 (4 * t + 1) = s.2.2.1 t ∧ z2 204 (4 * t + 2) = s.2.2.2.1 t ∧ z2 204 (4 * t + 3) = s.2.2.2.2.1 t) ∧ z 205 t = s.2.2.2.2.2 t) ∧ (k < t → t ≤ s.1 → (z2 204 (4 * t) = s.2.1 (t - 1) ∧ z2 204 (4 * t + 1) = s.2.2.1 (t - 1) ∧ z2 204 (4 * t + 2) = s.2.2.2.1 (t - 1) ∧ z2 204 (4 * t + 3) = s.2.2.2.2.1 (t - 1)) ∧ z 205 t = s.2.2.2.2.2 (t - 1))
def fr4 (z' z : ZM) : Prop := ∀ c, c ≠ 204 → z' c = z c
set_option maxHeartbeats 4000000 in
theorem x_keepCorner {X : PX} {d : Nat} {S : SS} {zI zL : ZM} {Q : PQ} (hS : Sk S) {s : KS} {fr x xd y yd : Int} (hC : CrH zI zL s) (hR : CrR s) (hm : s.1 < 1560) (hk : 0 ≤ fr ∧ fr + 3 < 6240) (hp : ptH zL 203 fr x xd y yd) (hB : PB x xd y yd) (hQ : ∀ z z2, frC z zI → fr4 z2 zL → CrH z z2 (kcS s x xd y yd) → Q none S z z2) : wpM X (d + 2) fM_keepCorner [pR 184, pI fr] S zI zL Q := by
  obtain ⟨m, X0, XD, Y, YD, H⟩ := s
  have hC0 := hC
  obtain ⟨e33, hel⟩ := hC
  obtain ⟨hm0, hrg⟩ := hR
  replace e33 : zI 184 33 = m := e33
  replace hm : m < 1560 := hm
  replace hm0 : 0 ≤ m := hm0
  replace hel : ∀ t, 0 ≤ t → t < m → (zL 204 (4 * t) = X0 t ∧ zL 204 (4 * t + 1) = XD t ∧ zL 204 (4 * t + 2) = Y t ∧ zL 204 (4 * t + 3) = YD t) ∧ zI 205 t = H t := hel
  replace hrg : ∀ t, 0 ≤ t → t < m → PB (X0 t) (XD t) (Y t) (YD t) := hrg
  have hab := kcA_b (s := (m, X0, XD, Y, YD, H)) (x := x) (xd := xd) (y := y) (yd := yd) hm0
  obtain ⟨at0, hat⟩ : ∃ a, a = kcA (m, X0, XD, Y, YD, H) x xd y yd := ⟨_, rfl⟩
  rw [← hat] at hab
  replace hab : 0 ≤ at0 ∧ at0 ≤ m := hab
  have hat2 : at0 = skS m X0 XD Y YD x xd y yd := hat
  have put : ¬ (at0 < m ∧ cmpP (X0 at0) (XD at0) (Y at0) (YD at0) x xd y yd = 0) → Run X (d + 1) c_M_keepCorner 43 [some (pR 184), some (pI fr), some (pI at0), none, none] [] S zI zL 0 0 Q := by
    intro hne
    have hS2 : kcS (m, X0, XD, Y, YD, H) x xd y yd = (m + 1, insF X0 at0 x, insF XD at0 xd, insF Y at0 y, insF YD at0 yd, insF H at0 1) := by
      unfold kcS kcE
      rw [← hat]
      rw [if_neg hne]
    rw [hS2] at hQ
    have fin : ∀ (z z2 : ZM) (y4 : Option PV), frC z zI → fr4 z2 zL → z 184 33 = m → mvC z z2 (m, X0, XD, Y, YD, H) at0 → Run X (d + 1) c_M_keepCorner 86 [some (pR 184), some (pI fr), some (pI at0), some (pI at0), y4] [] S z z2 0 0 Q := by
      intro z z2 y4 hz hz2 hz33 hmv
      obtain ⟨p1, p2, p3, p4⟩ := hp
      rw [← hz2 203 (by decide)] at p1 p2 p3 p4
      refine r_iconst rfl ?_
      refine r_istore_n rfl (Nat.le_of_ble_eq_true rfl) ?_
      refine r_iload_n rfl rfl ?_
      refine r_iconst rfl ?_
      refine r_icmp_ge rfl (by unfold inI; omega) (by unfold inI; omega) (fun h90 => ?_) (fun h90 => ?_)
      · skip
        exact absurd h90 (by decide)
      · skip
        refine r_aload_n rfl rfl ?_
        refine r_getR rfl (so184 hS) (sr184_34 hS) ?_
        refine r_iconst rfl ?_
        refine r_iload_n rfl rfl ?_
        refine r_imul rfl ?_
        refine r_iload_n rfl rfl ?_
        refine r_iadd rfl ?_
        refine r_aload_n rfl rfl ?_
        refine r_getR rfl (so184 hS) (sr184_26 hS) ?_
        refine r_iload_n rfl rfl ?_
        refine r_iload_n rfl rfl ?_
        refine r_iadd rfl ?_
        refine r_lald rfl (sw203 hS) (by omega) (by omega) ?_
        skip
        refine r_last rfl (sw204 hS) (by omega) (by omega) ?_
        refine r_iinc rfl rfl ?_
        refine r_goto rfl ?_
        refine r_iload_n rfl rfl ?_
        refine r_iconst rfl ?_
        refine r_icmp_ge rfl (by unfold inI; omega) (by unfold inI; omega) (fun h90 => ?_) (fun h90 => ?_)
        · skip
          exact absurd h90 (by decide)
        · skip
          refine r_aload_n rfl rfl ?_
          refine r_getR rfl (so184 hS) (sr184_34 hS) ?_
          refine r_iconst rfl ?_
          refine r_iload_n rfl rfl ?_
          refine r_imul rfl ?_
          refine r_iload_n rfl rfl ?_
          refine r_iadd rfl ?_
          refine r_aload_n rfl rfl ?_
          refine r_getR rfl (so184 hS) (sr184_26 hS) ?_
          refine r_iload_n rfl rfl ?_
          refine r_iload_n rfl rfl ?_
          refine r_iadd rfl ?_
          refine r_lald rfl (sw203 hS) (by omega) (by omega) ?_
          skip
          refine r_last rfl (sw204 hS) (by omega) (by omega) ?_
          refine r_iinc rfl rfl ?_
          refine r_goto rfl ?_
          refine r_iload_n rfl rfl ?_
          refine r_iconst rfl ?_
          refine r_icmp_ge rfl (by unfold inI; omega) (by unfold inI; omega) (fun h90 => ?_) (fun h90 => ?_)
          · skip
            exact absurd h90 (by decide)
          · skip
            refine r_aload_n rfl rfl ?_
            refine r_getR rfl (so184 hS) (sr184_34 hS) ?_
            refine r_iconst rfl ?_
            refine r_iload_n rfl rfl ?_
            refine r_imul rfl ?_
            refine r_iload_n rfl rfl ?_
            refine r_iadd rfl ?_
            refine r_aload_n rfl rfl ?_
            refine r_getR rfl (so184 hS) (sr184_26 hS) ?_
            refine r_iload_n rfl rfl ?_
            refine r_iload_n rfl rfl ?_
            refine r_iadd rfl ?_
            refine r_lald rfl (sw203 hS) (by omega) (by omega) ?_
            skip
            refine r_last rfl (sw204 hS) (by omega) (by omega) ?_
            refine r_iinc rfl rfl ?_
            refine r_goto rfl ?_
            refine r_iload_n rfl rfl ?_
            refine r_iconst rfl ?_
            refine r_icmp_ge rfl (by unfold inI; omega) (by unfold inI; omega) (fun h90 => ?_) (fun h90 => ?_)
            · skip
              exact absurd h90 (by decide)
            · skip
              refine r_aload_n rfl rfl ?_
              refine r_getR rfl (so184 hS) (sr184_34 hS) ?_
              refine r_iconst rfl ?_
              refine r_iload_n rfl rfl ?_
              refine r_imul rfl ?_
              refine r_iload_n rfl rfl ?_
              refine r_iadd rfl ?_
              refine r_aload_n rfl rfl ?_
              refine r_getR rfl (so184 hS) (sr184_26 hS) ?_
              refine r_iload_n rfl rfl ?_
              refine r_iload_n rfl rfl ?_
              refine r_iadd rfl ?_
              refine r_lald rfl (sw203 hS) (by omega) (by omega) ?_
              skip
              refine r_last rfl (sw204 hS) (by omega) (by omega) ?_
              refine r_iinc rfl rfl ?_
              refine r_goto rfl ?_
              refine r_iload_n rfl rfl ?_
              refine r_iconst rfl ?_
              refine r_icmp_ge rfl (by unfold inI; omega) (by unfold inI; omega) (fun h90 => ?_) (fun h90 => ?_)
              · skip
                refine r_aload_n rfl rfl ?_
                refine r_getR rfl (so184 hS) (sr184_35 hS) ?_
                refine r_iload_n rfl rfl ?_
                refine r_iconst rfl ?_
                refine r_iast rfl (sw205 hS) (by omega) (by omega) ?_
                refine r_aload_n rfl rfl ?_
                refine r_dupR rfl ?_
                refine r_getI rfl (so184 hS) ?_
                rw [zput_row (show (184 : Nat) ≠ 205 by decide), hz33]
                refine r_iconst rfl ?_
                refine r_iadd rfl ?_
                refine r_putI rfl (so184 hS) ?_
                refine r_ret rfl ?_
                refine hQ _ _ ⟨fun c c0 c1 => by rw [zput_row c0, zput_row c1]; exact hz.1 c c0 c1, fun k hk => by rw [zput_off hk, zput_row (by decide)]; exact hz.2 k hk⟩ (fun c hc => by rw [zput_row hc, zput_row hc, zput_row hc, zput_row hc]; exact hz2 c hc) ⟨zput_at, fun t t0 t1 => ?_⟩
                obtain ⟨u1, u2⟩ := hmv t t0
                replace u1 : t < at0 → (z2 204 (4 * t) = X0 t ∧ z2 204 (4 * t + 1) = XD t ∧ z2 204 (4 * t + 2) = Y t ∧ z2 204 (4 * t + 3) = YD t) ∧ z 205 t = H t := u1
                replace u2 : at0 < t → t ≤ m → (z2 204 (4 * t) = X0 (t - 1) ∧ z2 204 (4 * t + 1) = XD (t - 1) ∧ z2 204 (4 * t + 2) = Y (t - 1) ∧ z2 204 (4 * t + 3) = YD (t - 1)) ∧ z 205 t = H (t - 1) := u2
                replace t1 : t < m + 1 := t1
                show (_ = insF X0 at0 x t ∧ _ = insF XD at0 xd t ∧ _ = insF Y at0 y t ∧ _ = insF YD at0 yd t) ∧ _ = insF H at0 1 t
                rw [show fr + 0 = fr by omega, show fr + (0 + 1) = fr + 1 by omega, show fr + (0 + 1 + 1) = fr + 2 by omega, show fr + (0 + 1 + 1 + 1) = fr + 3 by omega]
                simp only [zput_row (show (203 : Nat) ≠ 204 by decide), p1, p2, p3, p4]
                unfold insF zput
                rcases Int.lt_trichotomy t at0 with ee | ee | ee
                · simp (disch := omega) only [if_pos, if_neg, ↓reduceIte, true_and, and_true, true_or, or_true, and_self]; exact u1 ee
                · subst ee; simp (disch := omega) only [if_pos, if_neg, ↓reduceIte, true_and, and_true, true_or, or_true, and_self]
                · simp (disch := omega) only [if_pos, if_neg, ↓reduceIte, true_and, and_true, true_or, or_true, and_self]; exact u2 ee (by omega)
              · skip
                exact absurd h90 (by decide)
    have lp : ∀ k : Int, at0 ≤ k → k ≤ m → ∀ (z z2 : ZM) (y4 : Option PV), frC z zI → fr4 z2 zL → z 184 33 = m → mvC z z2 (m, X0, XD, Y, YD, H) k → Run X (d + 1) c_M_keepCorner 46 [some (pR 184), some (pI fr), some (pI at0), some (pI k), y4] [] S z z2 0 0 Q := by
      refine loop_dn _ at0 (fun k hk ih h1 z z2 y4 hz hz2 hz33 hmv => ?_)
      refine r_iload_n rfl rfl ?_
      refine r_iload_n rfl rfl ?_
      refine r_icmp_le rfl (by unfold inI; omega) (by unfold inI; omega) (fun h48 => ?_) (fun h48 => ?_)
      · skip
        rw [show k = at0 by omega] at hmv ⊢
        exact fin z z2 _ hz hz2 hz33 hmv
      · skip
        refine r_iconst rfl ?_
        refine r_istore rfl (Nat.le_of_ble_eq_true rfl) ?_
        refine r_iload rfl rfl ?_
        refine r_iconst rfl ?_
        refine r_icmp_ge rfl (by unfold inI; omega) (by unfold inI; omega) (fun h53 => ?_) (fun h53 => ?_)
        · skip
          exact absurd h53 (by decide)
        · skip
          refine r_aload_n rfl rfl ?_
          refine r_getR rfl (so184 hS) (sr184_34 hS) ?_
          refine r_iconst rfl ?_
          refine r_iload_n rfl rfl ?_
          refine r_imul rfl ?_
          refine r_iload rfl rfl ?_
          refine r_iadd rfl ?_
          refine r_aload_n rfl rfl ?_
          refine r_getR rfl (so184 hS) (sr184_34 hS) ?_
          refine r_iconst rfl ?_
          refine r_iload_n rfl rfl ?_
          refine r_imul rfl ?_
          refine r_iconst rfl ?_
          refine r_isub rfl ?_
          refine r_iload rfl rfl ?_
          refine r_iadd rfl ?_
          refine r_lald rfl (sw204 hS) (by omega) (by omega) ?_
          refine r_last rfl (sw204 hS) (by omega) (by omega) ?_
          refine r_iinc rfl rfl ?_
          refine r_goto rfl ?_
          refine r_iload rfl rfl ?_
          refine r_iconst rfl ?_
          refine r_icmp_ge rfl (by unfold inI; omega) (by unfold inI; omega) (fun h53 => ?_) (fun h53 => ?_)
          · skip
            exact absurd h53 (by decide)
          · skip
            refine r_aload_n rfl rfl ?_
            refine r_getR rfl (so184 hS) (sr184_34 hS) ?_
            refine r_iconst rfl ?_
            refine r_iload_n rfl rfl ?_
            refine r_imul rfl ?_
            refine r_iload rfl rfl ?_
            refine r_iadd rfl ?_
            refine r_aload_n rfl rfl ?_
            refine r_getR rfl (so184 hS) (sr184_34 hS) ?_
            refine r_iconst rfl ?_
            refine r_iload_n rfl rfl ?_
            refine r_imul rfl ?_
            refine r_iconst rfl ?_
            refine r_isub rfl ?_
            refine r_iload rfl rfl ?_
            refine r_iadd rfl ?_
            refine r_lald rfl (sw204 hS) (by omega) (by omega) ?_
            refine r_last rfl (sw204 hS) (by omega) (by omega) ?_
            refine r_iinc rfl rfl ?_
            refine r_goto rfl ?_
            refine r_iload rfl rfl ?_
            refine r_iconst rfl ?_
            refine r_icmp_ge rfl (by unfold inI; omega) (by unfold inI; omega) (fun h53 => ?_) (fun h53 => ?_)
            · skip
              exact absurd h53 (by decide)
            · skip
              refine r_aload_n rfl rfl ?_
              refine r_getR rfl (so184 hS) (sr184_34 hS) ?_
              refine r_iconst rfl ?_
              refine r_iload_n rfl rfl ?_
              refine r_imul rfl ?_
              refine r_iload rfl rfl ?_
              refine r_iadd rfl ?_
              refine r_aload_n rfl rfl ?_
              refine r_getR rfl (so184 hS) (sr184_34 hS) ?_
              refine r_iconst rfl ?_
              refine r_iload_n rfl rfl ?_
              refine r_imul rfl ?_
              refine r_iconst rfl ?_
              refine r_isub rfl ?_
              refine r_iload rfl rfl ?_
              refine r_iadd rfl ?_
              refine r_lald rfl (sw204 hS) (by omega) (by omega) ?_
              refine r_last rfl (sw204 hS) (by omega) (by omega) ?_
              refine r_iinc rfl rfl ?_
              refine r_goto rfl ?_
              refine r_iload rfl rfl ?_
              refine r_iconst rfl ?_
              refine r_icmp_ge rfl (by unfold inI; omega) (by unfold inI; omega) (fun h53 => ?_) (fun h53 => ?_)
              · skip
                exact absurd h53 (by decide)
              · skip
                refine r_aload_n rfl rfl ?_
                refine r_getR rfl (so184 hS) (sr184_34 hS) ?_
                refine r_iconst rfl ?_
                refine r_iload_n rfl rfl ?_
                refine r_imul rfl ?_
                refine r_iload rfl rfl ?_
                refine r_iadd rfl ?_
                refine r_aload_n rfl rfl ?_
                refine r_getR rfl (so184 hS) (sr184_34 hS) ?_
                refine r_iconst rfl ?_
                refine r_iload_n rfl rfl ?_
                refine r_imul rfl ?_
                refine r_iconst rfl ?_
                refine r_isub rfl ?_
                refine r_iload rfl rfl ?_
                refine r_iadd rfl ?_
                refine r_lald rfl (sw204 hS) (by omega) (by omega) ?_
                refine r_last rfl (sw204 hS) (by omega) (by omega) ?_
                refine r_iinc rfl rfl ?_
                refine r_goto rfl ?_
                refine r_iload rfl rfl ?_
                refine r_iconst rfl ?_
                refine r_icmp_ge rfl (by unfold inI; omega) (by unfold inI; omega) (fun h53 => ?_) (fun h53 => ?_)
                · skip
                  refine r_aload_n rfl rfl ?_
                  refine r_getR rfl (so184 hS) (sr184_35 hS) ?_
                  refine r_iload_n rfl rfl ?_
                  refine r_aload_n rfl rfl ?_
                  refine r_getR rfl (so184 hS) (sr184_35 hS) ?_
                  refine r_iload_n rfl rfl ?_
                  refine r_iconst rfl ?_
                  refine r_isub rfl ?_
                  refine r_iald rfl (sw205 hS) (by omega) (by omega) ?_
                  refine r_iast rfl (sw205 hS) (by omega) (by omega) ?_
                  refine r_iinc rfl rfl ?_
                  refine r_goto rfl ?_
                  refine ih (by omega) (by omega) _ _ _ ⟨fun c c0 c1 => by rw [zput_row c1]; exact hz.1 c c0 c1, fun j hj => by rw [zput_row (by decide)]; exact hz.2 j hj⟩ (fun c hc => by rw [zput_row hc, zput_row hc, zput_row hc, zput_row hc]; exact hz2 c hc) (by rw [zput_row (by decide)]; exact hz33) (fun t t0 => ?_)
                  obtain ⟨u1, u2⟩ := hmv t t0
                  obtain ⟨v1, -⟩ := hmv (k - 1) (by omega)
                  replace v1 := v1 (by omega)
                  replace v1 : (z2 204 (4 * (k - 1)) = X0 (k - 1) ∧ z2 204 (4 * (k - 1) + 1) = XD (k - 1) ∧ z2 204 (4 * (k - 1) + 2) = Y (k - 1) ∧ z2 204 (4 * (k - 1) + 3) = YD (k - 1)) ∧ z 205 (k - 1) = H (k - 1) := v1
                  replace u2 : k < t → t ≤ m → (z2 204 (4 * t) = X0 (t - 1) ∧ z2 204 (4 * t + 1) = XD (t - 1) ∧ z2 204 (4 * t + 2) = Y (t - 1) ∧ z2 204 (4 * t + 3) = YD (t - 1)) ∧ z 205 t = H (t - 1) := u2
                  rw [show 4 * k - 4 + 0 = 4 * (k - 1) by omega, show 4 * k - 4 + (0 + 1) = 4 * (k - 1) + 1 by omega, show 4 * k - 4 + (0 + 1 + 1) = 4 * (k - 1) + 2 by omega, show 4 * k - 4 + (0 + 1 + 1 + 1) = 4 * (k - 1) + 3 by omega]
                  refine ⟨fun q => ?_, fun q1 q2 => ?_⟩
                  · unfold zput; simp (disch := omega) only [if_pos, if_neg, ↓reduceIte, true_and, and_true, true_or, or_true, and_self]; exact u1 (by omega)
                  · replace q2 : t ≤ m := q2
                    show (_ = X0 (t - 1) ∧ _ = XD (t - 1) ∧ _ = Y (t - 1) ∧ _ = YD (t - 1)) ∧ _ = H (t - 1)
                    by_cases ee : t = k
                    · subst ee; unfold zput; simp (disch := omega) only [if_pos, if_neg, ↓reduceIte, true_and, and_true, true_or, or_true, and_self]; exact v1
                    · unfold zput; simp (disch := omega) only [if_pos, if_neg, ↓reduceIte, true_and, and_true, true_or, or_true, and_self]; exact u2 (by omega) q2
                · skip
                  exact absurd h53 (by decide)
    refine r_aload_n rfl rfl ?_
    refine r_getI rfl (so184 hS) ?_
    rw [e33]
    refine r_istore_n rfl (Nat.le_of_ble_eq_true rfl) ?_
    exact lp m hab.2 (Int.le_refl _) zI zL none (frC_r zI) (fun _ _ => rfl) e33 (fun t t0 => ⟨fun q => hel t t0 q, fun q1 q2 => absurd (show t ≤ m from q2) (by omega)⟩)
  have wc := fun (k : Int) (k0 : 0 ≤ k) (k1 : k < m) (Q' : PQ) => x_compare (X := X) (d := d) (Q := Q') (zI := zI) (k := fr) (j := 4 * k) hS (sw203 hS) (sw204 hS) (by omega) (by omega) hp (hel k k0 k1).1 hB (hrg k k0 k1)
  have key : ∀ k : Int, k ≤ m → 0 ≤ k → fstN (fun t => decide (0 ≤ cmpP (X0 t) (XD t) (Y t) (YD t) x xd y yd)) (m - k).toNat k = at0 → Run X (d + 1) c_M_keepCorner 2 [some (pR 184), some (pI fr), some (pI k), none, none] [] S zI zL 0 0 Q := by
    refine loop_up _ m (fun k hk ih h0 hs => ?_)
    have go19 : k = at0 → Run X (d + 1) c_M_keepCorner 19 [some (pR 184), some (pI fr), some (pI k), none, none] [] S zI zL 0 0 Q := by
      intro hka
      subst hka
      refine r_iload_n rfl rfl ?_
      refine r_aload_n rfl rfl ?_
      refine r_getI rfl (so184 hS) ?_
      rw [e33]
      refine r_icmp_ge rfl (by unfold inI; omega) (by unfold inI; omega) (fun h22 => ?_) (fun h22 => ?_)
      · skip
        exact put (fun q => by omega)
      · skip
        refine r_aload_n rfl rfl ?_
        refine r_aload_n rfl rfl ?_
        refine r_getR rfl (so184 hS) (sr184_26 hS) ?_
        refine r_iload_n rfl rfl ?_
        refine r_aload_n rfl rfl ?_
        refine r_getR rfl (so184 hS) (sr184_34 hS) ?_
        refine r_iconst rfl ?_
        refine r_iload_n rfl rfl ?_
        refine r_imul rfl ?_
        have hkm : k < m := by omega
        have hne1 : cmpP (X0 k) (XD k) (Y k) (YD k) x xd y yd ≠ 0 → Run X (d + 1) c_M_keepCorner 43 [some (pR 184), some (pI fr), some (pI k), none, none] [] S zI zL 0 0 Q := fun q => put (fun q2 => q q2.2)
        refine r_cV5 rfl (so184 hS) (Nat.le_of_ble_eq_true rfl) rfl rfl (wc k h0 hkm _ (fun c => ?_) (fun c => ?_) (fun c => ?_))
        · refine r_if_ne rfl (by unfold inI; omega) (fun _ => ?_) (fun q => absurd q (by decide))
          exact hne1 (by omega)
        · refine r_if_ne rfl (by unfold inI; omega) (fun q => absurd rfl q) (fun _ => ?_)
          refine r_aload_n rfl rfl ?_
          refine r_getR rfl (so184 hS) (sr184_35 hS) ?_
          refine r_iload_n rfl rfl ?_
          refine r_dup2 rfl ?_
          refine r_iald rfl (sw205 hS) (by omega) (by omega) ?_
          refine r_iconst rfl ?_
          refine r_iadd rfl ?_
          refine r_iast rfl (sw205 hS) (by omega) (by omega) ?_
          refine r_ret rfl ?_
          have hS2 : kcS (m, X0, XD, Y, YD, H) x xd y yd = (m, X0, XD, Y, YD, updF H k (H k + 1)) := by
            unfold kcS kcE
            rw [← hat]
            rw [if_pos ⟨hkm, c⟩]
          rw [hS2] at hQ
          refine hQ _ _ ⟨fun c c0 c1 => zput_row c1, fun j hj => by rw [zput_row (show (184 : Nat) ≠ 205 by decide)]⟩ (fun _ _ => rfl) ⟨by rw [zput_row (by decide)]; exact e33, fun t t0 t1 => ?_⟩
          replace t1 : t < m := t1
          obtain ⟨q1, q2⟩ := hel t t0 t1
          refine ⟨q1, ?_⟩
          show _ = updF H k (H k + 1) t
          unfold updF
          by_cases ee : t = k
          · subst ee; rw [zput_at, if_pos rfl, q2]
          · rw [zput_off ee, if_neg ee]; exact q2
        · refine r_if_ne rfl (by unfold inI; omega) (fun _ => ?_) (fun q => absurd q (by decide))
          exact hne1 (by omega)
    refine r_iload_n rfl rfl ?_
    refine r_aload_n rfl rfl ?_
    refine r_getI rfl (so184 hS) ?_
    rw [e33]
    refine r_icmp_ge rfl (by unfold inI; omega) (by unfold inI; omega) (fun h5 => ?_) (fun h5 => ?_)
    · skip
      rw [fstN_e (by omega)] at hs
      exact go19 hs
    · skip
      refine r_aload_n rfl rfl ?_
      refine r_aload_n rfl rfl ?_
      refine r_getR rfl (so184 hS) (sr184_26 hS) ?_
      refine r_iload_n rfl rfl ?_
      refine r_aload_n rfl rfl ?_
      refine r_getR rfl (so184 hS) (sr184_34 hS) ?_
      refine r_iconst rfl ?_
      refine r_iload_n rfl rfl ?_
      refine r_imul rfl ?_
      have hkm : k < m := by omega
      refine r_cV5 rfl (so184 hS) (Nat.le_of_ble_eq_true rfl) rfl rfl (wc k h0 hkm _ (fun c => ?_) (fun c => ?_) (fun c => ?_))
      · refine r_if_le rfl (by unfold inI; omega) (fun q => absurd q (by decide)) (fun _ => ?_)
        rw [fstN_miss hkm (by simp only [decide_eq_false_iff_not]; omega)] at hs
        refine r_iinc rfl rfl ?_
        refine r_goto rfl ?_
        exact ih hkm (by omega) hs
      · refine r_if_le rfl (by unfold inI; omega) (fun _ => ?_) (fun q => absurd q (by decide))
        rw [fstN_hit hkm (by simp only [decide_eq_true_eq]; omega)] at hs
        exact go19 hs
      · refine r_if_le rfl (by unfold inI; omega) (fun _ => ?_) (fun q => absurd q (by decide))
        rw [fstN_hit hkm (by simp only [decide_eq_true_eq]; omega)] at hs
        exact go19 hs
  refine wp_in (C := c_M_keepCorner) (ls := [some (pR 184), some (pI fr), none, none, none]) rfl rfl rfl rfl rfl ?_
  refine r_iconst rfl ?_
  refine r_istore_n rfl (Nat.le_of_ble_eq_true rfl) ?_
  exact key 0 hm0 (Int.le_refl _) (by rw [Int.sub_zero]; exact hat2.symm)
def crE (I J V : Int → Int) (s : KS) (e : EE) : KS :=
  let s1 := if e.2.2.1 = -1 then s else kcS s (cpX I J V e.1 e.2.1 e.2.2.1) (cpXD I J V e.1 e.2.1 e.2.2.1) (cpY I J V e.1 e.2.1 e.2.2.1) (cpYD I J V e.1 e.2.1 e.2.2.1)
  if e.2.2.2 = -1 then s1 else kcS s1 (cpX I J V e.1 e.2.1 e.2.2.2) (cpXD I J V e.1 e.2.1 e.2.2.2) (cpY I J V e.1 e.2.1 e.2.2.2) (cpYD I J V e.1 e.2.1 e.2.2.2)
def k00 : KS := (0, fun _ => 0, fun _ => 0, fun _ => 0, fun _ => 0, fun _ => 0)
/-- THE CORNERS of a form -/
def crL (n : Int) (I J V : Int → Int) : KS := (edL n I J V).foldl (crE I J V) k00
def crF (I J V : Int → Int) (s : KS) (e : EE) : KS := if e.2.2.1 = -1 then s else kcS s (cpX I J V e.1 e.2.1 e.2.2.1) (cpXD I J V e.1 e.2.1 e.2.2.1) (cpY I J V e.1 e.2.1 e.2.2.1) (cpYD I J V e.1 e.2.1 e.2.2.1)
theorem crE_eq {I J V : Int → Int} {s : KS} {e : EE} : crE I J V s e = if e.2.2.2 = -1 then crF I J V s e else kcS (crF I J V s e) (cpX I J V e.1 e.2.1 e.2.2.2) (cpXD I J V e.1 e.2.1 e.2.2.2) (cpY I J V e.1 e.2.1 e.2.2.2) (cpYD I J V e.1 e.2.1 e.2.2.2) := rfl
theorem crF_m {I J V : Int → Int} {s : KS} {e : EE} : (crF I J V s e).1 ≤ s.1 + 1 := by
  unfold crF; split
  · omega
  · exact kcS_m.2
theorem crE_m {I J V : Int → Int} {s : KS} {e : EE} : (crE I J V s e).1 ≤ s.1 + 2 := by
  rw [crE_eq]
  have := crF_m (I := I) (J := J) (V := V) (s := s) (e := e)
  split
  · omega
  · have h2 := (kcS_m (s := crF I J V s e) (x := cpX I J V e.1 e.2.1 e.2.2.2) (xd := cpXD I J V e.1 e.2.1 e.2.2.2) (y := cpY I J V e.1 e.2.1 e.2.2.2) (yd := cpYD I J V e.1 e.2.1 e.2.2.2)).2
    omega
theorem EH_fr {z z' z2 z2' : ZM} {f : Int} {I J V : Int → Int} {L : List EE} (h : EH z z2 f I J V L) (h18 : z' 184 18 = z 184 18) (hz : ∀ c, 196 ≤ c → c ≤ 202 → z' c = z c) (hz2 : z2' 203 = z2 203) : EH z' z2' f I J V L := by
  unfold EH EdH ptH at *
  rw [h18, hz 196 (by decide) (by decide), hz 197 (by decide) (by decide), hz 198 (by decide) (by decide), hz 199 (by decide) (by decide), hz 200 (by decide) (by decide), hz 201 (by decide) (by decide), hz 202 (by decide) (by decide), hz2]
  exact h
def frK (z' z : ZM) : Prop := (∀ c, c ≠ 184 → (c < 196 ∨ 202 < c) → c ≠ 205 → z' c = z c) ∧ ∀ k, k ≠ 18 → k ≠ 27 → k ≠ 28 → k ≠ 33 → z' 184 k = z 184 k
def frKL (z' z : ZM) : Prop := (∀ c, c ≠ 184 → c ≠ 203 → c ≠ 204 → z' c = z c) ∧ ∀ k, (k < 29 ∨ 32 < k) → z' 184 k = z 184 k
set_option maxHeartbeats 4000000 in
theorem x_findCorners {X : PX} {d : Nat} {S : SS} {zI zL : ZM} {Q : PQ} (hS : Sk S) {f n : Int} {I J V : Int → Int} (hf : 0 ≤ f ∧ f ≤ 10) (hT : FM zI f n I J V) (hR : FR n I J V) (hS2 : FS n I J) (hcap : (edL n I J V).length ≤ 700) (hQ : ∀ z z2, frK z zI → frKL z2 zL → EH z z2 f I J V (edL n I J V) → CrH z z2 (crL n I J V) → CrR (crL n I J V) → Q none S z z2) : wpM X (d + 5) fM_findCorners [pR 184, pI f] S zI zL Q := by
  have hn0 := hR.1
  have hok := edL_ok (I := I) (J := J) (V := V) hn0
  have lp : ∀ (r k : Nat), k + r = (edL n I J V).length → ∀ (z z2 : ZM) (s : KS), frK z zI → frKL z2 zL → EH z z2 f I J V (edL n I J V) → CrH z z2 s → CrR s → s.1 ≤ 2 * (k : Int) → ((edL n I J V).drop k).foldl (crE I J V) s = crL n I J V → Run X (d + 4) c_M_findCorners 8 [some (pR 184), some (pI f), some (pI (k : Int))] [] S z z2 0 0 Q := by
    intro r
    induction r with
    | zero =>
      intro k hk z z2 s hz hz2 hE hC hCR hs hst
      have e18 := hE.1
      refine r_iload_n rfl rfl ?_
      refine r_aload_n rfl rfl ?_
      refine r_getI rfl (so184 hS) ?_
      rw [e18]
      refine r_icmp_ge rfl (by unfold inI; omega) (by unfold inI; omega) (fun h11 => ?_) (fun h11 => ?_)
      · skip
        refine r_ret rfl ?_
        rw [List.drop_eq_nil_of_le (by omega)] at hst
        have hst : s = crL n I J V := hst
        subst hst; exact hQ z z2 hz hz2 hE hC hCR
      · skip
        omega
    | succ r ih =>
      intro k hk z z2 s hz hz2 hE hC hCR hs hst
      have e18 := hE.1
      have hkl : k < (edL n I J V).length := by omega
      obtain ⟨e, he⟩ : ∃ e, (edL n I J V)[k]? = some e := ⟨_, List.getElem?_eq_getElem hkl⟩
      have hd : (edL n I J V).drop k = e :: (edL n I J V).drop (k + 1) := by
        rw [List.drop_eq_getElem_cons hkl]
        rw [List.getElem?_eq_getElem hkl] at he
        rw [Option.some.inj he]
      rw [hd, List.foldl_cons] at hst
      obtain ⟨o1, o2, o3, o4⟩ := hok e (List.mem_of_getElem? he)
      obtain ⟨k1, k2⟩ := stF_ok hn0 o4
      obtain ⟨⟨-, -, -, -, -, g1, g2⟩, p1, p2⟩ := hE.2 k e he
      have i1 := n1_i e.2.2.1
      have i2 := n1_i e.2.2.2
      have n1z : ∀ l, n1 l = 0 ↔ l = -1 := fun l => by unfold n1; split <;> simp_all
      have nx : ∀ (z z2 : ZM), frK z zI → frKL z2 zL → EH z z2 f I J V (edL n I J V) → CrH z z2 (crE I J V s e) → CrR (crE I J V s e) → Run X (d + 4) c_M_findCorners 34 [some (pR 184), some (pI f), some (pI (k : Int))] [] S z z2 0 0 Q := by
        intro z z2 hz hz2 hE hC hCR
        refine r_iinc rfl rfl ?_
        refine r_goto rfl ?_
        have := crE_m (I := I) (J := J) (V := V) (s := s) (e := e)
        have h8 := ih (k + 1) (by omega) z z2 _ hz hz2 hE hC hCR (by omega) hst
        exact h8
      have sec : ∀ (z z2 : ZM), frK z zI → frKL z2 zL → EH z z2 f I J V (edL n I J V) → CrH z z2 (crF I J V s e) → CrR (crF I J V s e) → Run X (d + 4) c_M_findCorners 22 [some (pR 184), some (pI f), some (pI (k : Int))] [] S z z2 0 0 Q := by
        intro z z2 hz hz2 hE hC hCR
        obtain ⟨⟨-, -, -, -, -, -, g2⟩, -, p2⟩ := hE.2 k e he
        have hm := crF_m (I := I) (J := J) (V := V) (s := s) (e := e)
        refine r_aload_n rfl rfl ?_
        refine r_getR rfl (so184 hS) (sr184_25 hS) ?_
        refine r_iload_n rfl rfl ?_
        refine r_bald rfl (sw202 hS) (by omega) (by omega) ?_
        rw [g2]
        refine r_if_eq rfl (by unfold inI; omega) (fun h26 => ?_) (fun h26 => ?_)
        · skip
          refine nx z z2 hz hz2 hE ?_ ?_
          · rw [crE_eq, if_pos ((n1z _).mp h26)]; exact hC
          · rw [crE_eq, if_pos ((n1z _).mp h26)]; exact hCR
        · skip
          have hg : e.2.2.2 ≠ -1 := fun q => h26 ((n1z _).mpr q)
          obtain ⟨q1, q2, q3⟩ : 0 ≤ e.2.2.2 ∧ e.2.2.2 < n ∧ trE I J e.1 e.2.1 e.2.2.2 < 0 := by rcases k2 with q | q; exact absurd q hg; exact q
          have hpb := cp_b hR ⟨o1, show e.1 < n by omega⟩ ⟨show 0 ≤ e.2.1 by omega, o3⟩ ⟨q1, q2⟩ (show trE I J e.1 e.2.1 e.2.2.2 ≠ 0 by omega)
          refine r_aload_n rfl rfl ?_
          refine r_bipush rfl ?_
          refine r_iload_n rfl rfl ?_
          refine r_imul rfl ?_
          refine r_iconst rfl ?_
          refine r_iadd rfl ?_
          refine r_cV2 rfl (so184 hS) (Nat.le_of_ble_eq_true rfl) rfl rfl (x_keepCorner hS hC hCR (by omega) ⟨by omega, by omega⟩ (p2 hg) hpb (fun z3 z4 f3 f4 hC3 => ?_))
          refine nx z3 z4 ⟨fun c c0 c1 c2 => (f3.1 c c0 c2).trans (hz.1 c c0 c1 c2), fun j j0 j1 j2 j3 => (f3.2 j j3).trans (hz.2 j j0 j1 j2 j3)⟩ ⟨fun c c0 c1 c2 => (f4 c c2).trans (hz2.1 c c0 c1 c2), fun j j0 => by rw [f4 184 (by decide)]; exact hz2.2 j j0⟩ (EH_fr hE (f3.2 18 (by decide)) (fun c c0 c1 => f3.1 c (by omega) (by omega)) (f4 203 (by decide))) ?_ ?_
          · rw [crE_eq, if_neg hg]; exact hC3
          · rw [crE_eq, if_neg hg]; exact kcS_R hCR hpb
      refine r_iload_n rfl rfl ?_
      refine r_aload_n rfl rfl ?_
      refine r_getI rfl (so184 hS) ?_
      rw [e18]
      refine r_icmp_ge rfl (by unfold inI; omega) (by unfold inI; omega) (fun h11 => ?_) (fun h11 => ?_)
      · skip
        omega
      · skip
        refine r_aload_n rfl rfl ?_
        refine r_getR rfl (so184 hS) (sr184_24 hS) ?_
        refine r_iload_n rfl rfl ?_
        refine r_bald rfl (sw201 hS) (by omega) (by omega) ?_
        rw [g1]
        refine r_if_eq rfl (by unfold inI; omega) (fun h16 => ?_) (fun h16 => ?_)
        · skip
          refine sec z z2 hz hz2 hE ?_ ?_
          · unfold crF; rw [if_pos ((n1z _).mp h16)]; exact hC
          · unfold crF; rw [if_pos ((n1z _).mp h16)]; exact hCR
        · skip
          have hg : e.2.2.1 ≠ -1 := fun q => h16 ((n1z _).mpr q)
          obtain ⟨q1, q2, q3⟩ : 0 ≤ e.2.2.1 ∧ e.2.2.1 < n ∧ 0 < trE I J e.1 e.2.1 e.2.2.1 := by rcases k1 with q | q; exact absurd q hg; exact q
          have hpb := cp_b hR ⟨o1, show e.1 < n by omega⟩ ⟨show 0 ≤ e.2.1 by omega, o3⟩ ⟨q1, q2⟩ (show trE I J e.1 e.2.1 e.2.2.1 ≠ 0 by omega)
          refine r_aload_n rfl rfl ?_
          refine r_bipush rfl ?_
          refine r_iload_n rfl rfl ?_
          refine r_imul rfl ?_
          refine r_cV2 rfl (so184 hS) (Nat.le_of_ble_eq_true rfl) rfl rfl (x_keepCorner hS hC hCR (by omega) ⟨by omega, by omega⟩ (p1 hg) hpb (fun z3 z4 f3 f4 hC3 => ?_))
          refine sec z3 z4 ⟨fun c c0 c1 c2 => (f3.1 c c0 c2).trans (hz.1 c c0 c1 c2), fun j j0 j1 j2 j3 => (f3.2 j j3).trans (hz.2 j j0 j1 j2 j3)⟩ ⟨fun c c0 c1 c2 => (f4 c c2).trans (hz2.1 c c0 c1 c2), fun j j0 => by rw [f4 184 (by decide)]; exact hz2.2 j j0⟩ (EH_fr hE (f3.2 18 (by decide)) (fun c c0 c1 => f3.1 c (by omega) (by omega)) (f4 203 (by decide))) ?_ ?_
          · unfold crF; rw [if_neg hg]; exact hC3
          · unfold crF; rw [if_neg hg]; exact kcS_R hCR hpb
  refine wp_in (C := c_M_findCorners) (ls := [some (pR 184), some (pI f), none]) rfl rfl rfl rfl rfl ?_
  refine r_aload_n rfl rfl ?_
  refine r_iload_n rfl rfl ?_
  refine r_cV2 rfl (so184 hS) (Nat.le_of_ble_eq_true rfl) rfl rfl (x_findEdges hS hf hT hR hS2 (by omega) (fun z3 z4 f3 f4 hE => ?_))
  refine r_aload_n rfl rfl ?_
  refine r_iconst rfl ?_
  refine r_putI rfl (so184 hS) ?_
  refine r_iconst rfl ?_
  refine r_istore_n rfl (Nat.le_of_ble_eq_true rfl) ?_
  exact lp (edL n I J V).length 0 (by omega) _ z4 k00 ⟨fun c c0 c1 c2 => by rw [zput_row c0]; exact f3.1 c c0 c1, fun j j0 j1 j2 j3 => by rw [zput_off j3]; exact f3.2 j j0 j1 j2⟩ ⟨fun c c0 c1 c2 => f4.1 c c0 c1, fun j j0 => f4.2 j j0⟩ (EH_fr hE (zput_off (by decide)) (fun c c0 c1 => zput_row (by omega)) rfl) ⟨zput_at, fun t t0 t1 => absurd t1 (by show ¬ t < 0; omega)⟩ ⟨Int.le_refl _, fun t t0 t1 => absurd t1 (by show ¬ t < 0; omega)⟩ (by show (0 : Int) ≤ _; omega) rfl
