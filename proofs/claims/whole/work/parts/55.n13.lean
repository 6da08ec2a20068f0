/-! THE REFERENCE: a meet kept; where two lines meet -/
def MM (z z2 : ZM) (s : MTS) : Prop := z 184 43 = s.1 ∧ ∀ t, 0 ≤ t → t < s.1 → (z2 212 (4 * t) = s.2.1 t ∧ z2 212 (4 * t + 1) = s.2.2.1 t ∧ z2 212 (4 * t + 2) = s.2.2.2.1 t ∧ z2 212 (4 * t + 3) = s.2.2.2.2.1 t) ∧ z 213 t = s.2.2.2.2.2 t
def MMR (s : MTS) : Prop := PsR s.1 s.2.1 s.2.2.1 s.2.2.2.1 s.2.2.2.2.1
def notU (s : MTS) (x xd y yd ct : Int) : MTS := (s.1 + 1, insF s.2.1 (notA s x xd y yd) x, insF s.2.2.1 (notA s x xd y yd) xd, insF s.2.2.2.1 (notA s x xd y yd) y, insF s.2.2.2.2.1 (notA s x xd y yd) yd, insF s.2.2.2.2.2 (notA s x xd y yd) ct)
def mvM (z z2 : ZM) (s : MTS) (k : Int) : Prop := ∀ t, 0 ≤ t → (t < k → (z2 212 (4 * t) = s.2.1 t ∧ z2 212 (4 * t + 1) = s.2.2.1 t ∧ z2 212 (4 * t + 2) = s.2.2.2.1 t ∧ z2 212 (4 * t + 3) = s.2.2.2.2.1 t) ∧ z 213 t = s.2.2.2.2.2 t) ∧ (k < t → t ≤ s.1 → (z2 212 (4 * t) = s.2.1 (t - 1) ∧ z2 212 (4 * t + 1) = s.2.2.1 (t - 1) ∧ z2 212 (4 * t + 2) = s.2.2.2.1 (t - 1) ∧ z2 212 (4 * t + 3) = s.2.2.2.2.1 (t - 1)) ∧ z 213 t = s.2.2.2.2.2 (t - 1))
def frM (z' z : ZM) : Prop := (∀ c, c ≠ 184 → c ≠ 213 → z' c = z c) ∧ ∀ k, k ≠ 43 → z' 184 k = z 184 k
theorem frM_r (z : ZM) : frM z z := ⟨fun _ _ _ => rfl, fun _ _ => rfl⟩
def frML (z' z : ZM) : Prop := ∀ c, c ≠ 203 → c ≠ 212 → z' c = z c
set_option maxHeartbeats 4000000 in
theorem x_keepMeet {X : PX} {d : Nat} {S : SS} {zI zL : ZM} {Q : PQ} (hS : Sk S) {s : MTS} {ct x xd y yd : Int} (hC : MM zI zL s) (hR : MMR s) (hm : s.1 < 800) (hP : PM zL x xd y yd) (hB : PB x xd y yd) (hQ : ∀ z z2, frM z zI → frML z2 zL → MM z z2 (notU s x xd y yd ct) → Q none S z z2) : wpM X (d + 2) fM_keepMeet [pR 184, pI ct] S zI zL Q := by
  obtain ⟨m, X0, XD, Y, YD, H⟩ := s
  obtain ⟨e43, hel⟩ := hC
  obtain ⟨hm0, hrg⟩ := hR
  obtain ⟨⟨e0, e1⟩, e2, e3⟩ := hP
  replace e43 : zI 184 43 = m := e43
  replace hm : m < 800 := hm
  replace hm0 : 0 ≤ m := hm0
  replace hel : ∀ t, 0 ≤ t → t < m → (zL 212 (4 * t) = X0 t ∧ zL 212 (4 * t + 1) = XD t ∧ zL 212 (4 * t + 2) = Y t ∧ zL 212 (4 * t + 3) = YD t) ∧ zI 213 t = H t := hel
  replace hrg : ∀ t, 0 ≤ t → t < m → PB (X0 t) (XD t) (Y t) (YD t) := hrg
  have hab := skS_b m X0 XD Y YD x xd y yd hm0
  obtain ⟨at0, hat⟩ : ∃ a, a = skS m X0 XD Y YD x xd y yd := ⟨_, rfl⟩
  rw [← hat] at hab
  have hS2 : notU (m, X0, XD, Y, YD, H) x xd y yd ct = (m + 1, insF X0 at0 x, insF XD at0 xd, insF Y at0 y, insF YD at0 yd, insF H at0 ct) := by
    unfold notU notA
    rw [← hat]
  rw [hS2] at hQ
  have main : ∀ zP : ZM, (∀ c, c ≠ 203 → zP c = zL c) → ptH zP 203 0 x xd y yd → Run X (d + 1) c_M_keepMeet 24 [some (pR 184), some (pI ct), none, none, none] [] S zI zP 0 0 Q := by
    intro zP hzP hp
    obtain ⟨p1, p2, p3, p4⟩ := id hp
    replace hel : ∀ t, 0 ≤ t → t < m → (zP 212 (4 * t) = X0 t ∧ zP 212 (4 * t + 1) = XD t ∧ zP 212 (4 * t + 2) = Y t ∧ zP 212 (4 * t + 3) = YD t) ∧ zI 213 t = H t := fun t t0 t1 => by rw [hzP 212 (by decide)]; exact hel t t0 t1
    have put : Run X (d + 1) c_M_keepMeet 43 [some (pR 184), some (pI ct), some (pI at0), none, none] [] S zI zP 0 0 Q := by
      have fin : ∀ (z z2 : ZM) (y4 : Option PV), frM z zI → (∀ c, c ≠ 212 → z2 c = zP c) → z 184 43 = m → mvM z z2 (m, X0, XD, Y, YD, H) at0 → Run X (d + 1) c_M_keepMeet 86 [some (pR 184), some (pI ct), some (pI at0), some (pI at0), y4] [] S z z2 0 0 Q := by
        intro z z2 y4 hz hz2 hz33 hmv
        rw [← hz2 203 (by decide)] at p1 p2 p3 p4
        refine r_iconst rfl ?_
        refine r_istore_n rfl (Nat.le_of_ble_eq_true rfl) ?_
        refine r_iload_n rfl rfl ?_
        refine r_iconst rfl ?_
        refine r_icmp_ge rfl (by unfold inI; omega) (by unfold inI; omega) (fun h90 => ?_) (fun h90 => ?_)
        · skip
          exact absurd h90 (by decide)
        · skip
          refine r_aload_n rfl rfl ?_
          refine r_getR rfl (so184 hS) (sr184_44 hS) ?_
          refine r_iconst rfl ?_
          refine r_iload_n rfl rfl ?_
          refine r_imul rfl ?_
          refine r_iload_n rfl rfl ?_
          refine r_iadd rfl ?_
          refine r_aload_n rfl rfl ?_
          refine r_getR rfl (so184 hS) (sr184_26 hS) ?_
          refine r_iload_n rfl rfl ?_
          refine r_lald rfl (sw203 hS) (by omega) (by omega) ?_
          refine r_last rfl (sw212 hS) (by omega) (by omega) ?_
          refine r_iinc rfl rfl ?_
          refine r_goto rfl ?_
          refine r_iload_n rfl rfl ?_
          refine r_iconst rfl ?_
          refine r_icmp_ge rfl (by unfold inI; omega) (by unfold inI; omega) (fun h90 => ?_) (fun h90 => ?_)
          · skip
            exact absurd h90 (by decide)
          · skip
            refine r_aload_n rfl rfl ?_
            refine r_getR rfl (so184 hS) (sr184_44 hS) ?_
            refine r_iconst rfl ?_
            refine r_iload_n rfl rfl ?_
            refine r_imul rfl ?_
            refine r_iload_n rfl rfl ?_
            refine r_iadd rfl ?_
            refine r_aload_n rfl rfl ?_
            refine r_getR rfl (so184 hS) (sr184_26 hS) ?_
            refine r_iload_n rfl rfl ?_
            refine r_lald rfl (sw203 hS) (by omega) (by omega) ?_
            refine r_last rfl (sw212 hS) (by omega) (by omega) ?_
            refine r_iinc rfl rfl ?_
            refine r_goto rfl ?_
            refine r_iload_n rfl rfl ?_
            refine r_iconst rfl ?_
            refine r_icmp_ge rfl (by unfold inI; omega) (by unfold inI; omega) (fun h90 => ?_) (fun h90 => ?_)
            · skip
              exact absurd h90 (by decide)
            · skip
              refine r_aload_n rfl rfl ?_
              refine r_getR rfl (so184 hS) (sr184_44 hS) ?_
              refine r_iconst rfl ?_
              refine r_iload_n rfl rfl ?_
              refine r_imul rfl ?_
              refine r_iload_n rfl rfl ?_
              refine r_iadd rfl ?_
              refine r_aload_n rfl rfl ?_
              refine r_getR rfl (so184 hS) (sr184_26 hS) ?_
              refine r_iload_n rfl rfl ?_
              refine r_lald rfl (sw203 hS) (by omega) (by omega) ?_
              refine r_last rfl (sw212 hS) (by omega) (by omega) ?_
              refine r_iinc rfl rfl ?_
              refine r_goto rfl ?_
              refine r_iload_n rfl rfl ?_
              refine r_iconst rfl ?_
              refine r_icmp_ge rfl (by unfold inI; omega) (by unfold inI; omega) (fun h90 => ?_) (fun h90 => ?_)
              · skip
                exact absurd h90 (by decide)
              · skip
                refine r_aload_n rfl rfl ?_
                refine r_getR rfl (so184 hS) (sr184_44 hS) ?_
                refine r_iconst rfl ?_
                refine r_iload_n rfl rfl ?_
                refine r_imul rfl ?_
                refine r_iload_n rfl rfl ?_
                refine r_iadd rfl ?_
                refine r_aload_n rfl rfl ?_
                refine r_getR rfl (so184 hS) (sr184_26 hS) ?_
                refine r_iload_n rfl rfl ?_
                refine r_lald rfl (sw203 hS) (by omega) (by omega) ?_
                refine r_last rfl (sw212 hS) (by omega) (by omega) ?_
                refine r_iinc rfl rfl ?_
                refine r_goto rfl ?_
                refine r_iload_n rfl rfl ?_
                refine r_iconst rfl ?_
                refine r_icmp_ge rfl (by unfold inI; omega) (by unfold inI; omega) (fun h90 => ?_) (fun h90 => ?_)
                · skip
                  refine r_aload_n rfl rfl ?_
                  refine r_getR rfl (so184 hS) (sr184_45 hS) ?_
                  refine r_iload_n rfl rfl ?_
                  refine r_iload_n rfl rfl ?_
                  refine r_iast rfl (sw213 hS) (by omega) (by omega) ?_
                  refine r_aload_n rfl rfl ?_
                  refine r_dupR rfl ?_
                  refine r_getI rfl (so184 hS) ?_
                  rw [zput_row (show (184 : Nat) ≠ 213 by decide), hz33]
                  refine r_iconst rfl ?_
                  refine r_iadd rfl ?_
                  refine r_putI rfl (so184 hS) ?_
                  refine r_ret rfl ?_
                  refine hQ _ _ ⟨fun c c0 c1 => by rw [zput_row c0, zput_row c1]; exact hz.1 c c0 c1, fun k hk => by rw [zput_off hk, zput_row (by decide)]; exact hz.2 k hk⟩ (fun c hc hc2 => by rw [zput_row hc2, zput_row hc2, zput_row hc2, zput_row hc2, hz2 c hc2]; exact hzP c hc) ⟨zput_at, fun t t0 t1 => ?_⟩
                  obtain ⟨u1, u2⟩ := hmv t t0
                  replace u1 : t < at0 → (z2 212 (4 * t) = X0 t ∧ z2 212 (4 * t + 1) = XD t ∧ z2 212 (4 * t + 2) = Y t ∧ z2 212 (4 * t + 3) = YD t) ∧ z 213 t = H t := u1
                  replace u2 : at0 < t → t ≤ m → (z2 212 (4 * t) = X0 (t - 1) ∧ z2 212 (4 * t + 1) = XD (t - 1) ∧ z2 212 (4 * t + 2) = Y (t - 1) ∧ z2 212 (4 * t + 3) = YD (t - 1)) ∧ z 213 t = H (t - 1) := u2
                  replace t1 : t < m + 1 := t1
                  show (_ = insF X0 at0 x t ∧ _ = insF XD at0 xd t ∧ _ = insF Y at0 y t ∧ _ = insF YD at0 yd t) ∧ _ = insF H at0 ct t
                  have p3' : z2 203 (0 + 1 + 1) = y := p3
                  have p4' : z2 203 (0 + 1 + 1 + 1) = yd := p4
                  simp only [zput_row (show (203 : Nat) ≠ 212 by decide), p1, p2, p3', p4']
                  unfold insF zput
                  rcases Int.lt_trichotomy t at0 with ee | ee | ee
                  · simp (disch := omega) only [if_pos, if_neg, ↓reduceIte, true_and, and_true, true_or, or_true, and_self]; exact u1 ee
                  · subst ee; simp (disch := omega) only [if_pos, if_neg, ↓reduceIte, true_and, and_true, true_or, or_true, and_self]
                  · simp (disch := omega) only [if_pos, if_neg, ↓reduceIte, true_and, and_true, true_or, or_true, and_self]; exact u2 ee (by omega)
                · skip
                  exact absurd h90 (by decide)
      have lp : ∀ k : Int, at0 ≤ k → k ≤ m → ∀ (z z2 : ZM) (y4 : Option PV), frM z zI → (∀ c, c ≠ 212 → z2 c = zP c) → z 184 43 = m → mvM z z2 (m, X0, XD, Y, YD, H) k → Run X (d + 1) c_M_keepMeet 46 [some (pR 184), some (pI ct), some (pI at0), some (pI k), y4] [] S z z2 0 0 Q := by
        refine loop_dn _ at0 (fun k hk ih h1 z z2 y4 hz hz2 hz33 hmv => ?_)
        refine r_iload_n rfl rfl ?_
        refine r_iload_n rfl rfl ?_
        refine r_icmp_le rfl (by unfold inI; omega) (by unfold inI; omega) (fun h48 => ?_) (fun h48 => ?_)
        · skip
          rw [show k = at0 by omega] at hmv ⊢
          exact fin z z2 _ hz hz2 hz33 hmv
        · skip
          refine r_iconst rfl ?_
          refine r_istore rfl (Nat.le_of_ble_eq_true rfl) ?_
          refine r_iload rfl rfl ?_
          refine r_iconst rfl ?_
          refine r_icmp_ge rfl (by unfold inI; omega) (by unfold inI; omega) (fun h53 => ?_) (fun h53 => ?_)
          · skip
            exact absurd h53 (by decide)
          · skip
            refine r_aload_n rfl rfl ?_
            refine r_getR rfl (so184 hS) (sr184_44 hS) ?_
            refine r_iconst rfl ?_
            refine r_iload_n rfl rfl ?_
            refine r_imul rfl ?_
            refine r_iload rfl rfl ?_
            refine r_iadd rfl ?_
            refine r_aload_n rfl rfl ?_
            refine r_getR rfl (so184 hS) (sr184_44 hS) ?_
            refine r_iconst rfl ?_
            refine r_iload_n rfl rfl ?_
            refine r_imul rfl ?_
            refine r_iconst rfl ?_
            refine r_isub rfl ?_
            refine r_iload rfl rfl ?_
            refine r_iadd rfl ?_
            refine r_lald rfl (sw212 hS) (by omega) (by omega) ?_
            refine r_last rfl (sw212 hS) (by omega) (by omega) ?_
            refine r_iinc rfl rfl ?_
            refine r_goto rfl ?_
            refine r_iload rfl rfl ?_
            refine r_iconst rfl ?_
            refine r_icmp_ge rfl (by unfold inI; omega) (by unfold inI; omega) (fun h53 => ?_) (fun h53 => ?_)
            · skip
              exact absurd h53 (by decide)
            · skip
              refine r_aload_n rfl rfl ?_
              refine r_getR rfl (so184 hS) (sr184_44 hS) ?_
              refine r_iconst rfl ?_
              refine r_iload_n rfl rfl ?_
              refine r_imul rfl ?_
              refine r_iload rfl rfl ?_
              refine r_iadd rfl ?_
              refine r_aload_n rfl rfl ?_
              refine r_getR rfl (so184 hS) (sr184_44 hS) ?_
              refine r_iconst rfl ?_
              refine r_iload_n rfl rfl ?_
              refine r_imul rfl ?_
              refine r_iconst rfl ?_
              refine r_isub rfl ?_
              refine r_iload rfl rfl ?_
              refine r_iadd rfl ?_
              refine r_lald rfl (sw212 hS) (by omega) (by omega) ?_
              refine r_last rfl (sw212 hS) (by omega) (by omega) ?_
              refine r_iinc rfl rfl ?_
              refine r_goto rfl ?_
              refine r_iload rfl rfl ?_
              refine r_iconst rfl ?_
              refine r_icmp_ge rfl (by unfold inI; omega) (by unfold inI; omega) (fun h53 => ?_) (fun h53 => ?_)
              · skip
                exact absurd h53 (by decide)
              · skip
                refine r_aload_n rfl rfl ?_
                refine r_getR rfl (so184 hS) (sr184_44 hS) ?_
                refine r_iconst rfl ?_
                refine r_iload_n rfl rfl ?_
                refine r_imul rfl ?_
                refine r_iload rfl rfl ?_
                refine r_iadd rfl ?_
                refine r_aload_n rfl rfl ?_
                refine r_getR rfl (so184 hS) (sr184_44 hS) ?_
                refine r_iconst rfl ?_
                refine r_iload_n rfl rfl ?_
                refine r_imul rfl ?_
                refine r_iconst rfl ?_
                refine r_isub rfl ?_
                refine r_iload rfl rfl ?_
                refine r_iadd rfl ?_
                refine r_lald rfl (sw212 hS) (by omega) (by omega) ?_
                refine r_last rfl (sw212 hS) (by omega) (by omega) ?_
                refine r_iinc rfl rfl ?_
                refine r_goto rfl ?_
                refine r_iload rfl rfl ?_
                refine r_iconst rfl ?_
                refine r_icmp_ge rfl (by unfold inI; omega) (by unfold inI; omega) (fun h53 => ?_) (fun h53 => ?_)
                · skip
                  exact absurd h53 (by decide)
                · skip
                  refine r_aload_n rfl rfl ?_
                  refine r_getR rfl (so184 hS) (sr184_44 hS) ?_
                  refine r_iconst rfl ?_
                  refine r_iload_n rfl rfl ?_
                  refine r_imul rfl ?_
                  refine r_iload rfl rfl ?_
                  refine r_iadd rfl ?_
                  refine r_aload_n rfl rfl ?_
                  refine r_getR rfl (so184 hS) (sr184_44 hS) ?_
                  refine r_iconst rfl ?_
                  refine r_iload_n rfl rfl ?_
                  refine r_imul rfl ?_
                  refine r_iconst rfl ?_
                  refine r_isub rfl ?_
                  refine r_iload rfl rfl ?_
                  refine r_iadd rfl ?_
                  refine r_lald rfl (sw212 hS) (by omega) (by omega) ?_
                  refine r_last rfl (sw212 hS) (by omega) (by omega) ?_
                  refine r_iinc rfl rfl ?_
                  refine r_goto rfl ?_
                  refine r_iload rfl rfl ?_
                  refine r_iconst rfl ?_
                  refine r_icmp_ge rfl (by unfold inI; omega) (by unfold inI; omega) (fun h53 => ?_) (fun h53 => ?_)
                  · skip
                    refine r_aload_n rfl rfl ?_
                    refine r_getR rfl (so184 hS) (sr184_45 hS) ?_
                    refine r_iload_n rfl rfl ?_
                    refine r_aload_n rfl rfl ?_
                    refine r_getR rfl (so184 hS) (sr184_45 hS) ?_
                    refine r_iload_n rfl rfl ?_
                    refine r_iconst rfl ?_
                    refine r_isub rfl ?_
                    refine r_iald rfl (sw213 hS) (by omega) (by omega) ?_
                    refine r_iast rfl (sw213 hS) (by omega) (by omega) ?_
                    refine r_iinc rfl rfl ?_
                    refine r_goto rfl ?_
                    refine ih (by omega) (by omega) _ _ _ ⟨fun c c0 c1 => by rw [zput_row c1]; exact hz.1 c c0 c1, fun j hj => by rw [zput_row (by decide)]; exact hz.2 j hj⟩ (fun c hc => by rw [zput_row hc, zput_row hc, zput_row hc, zput_row hc]; exact hz2 c hc) (by rw [zput_row (by decide)]; exact hz33) (fun t t0 => ?_)
                    obtain ⟨u1, u2⟩ := hmv t t0
                    obtain ⟨v1, -⟩ := hmv (k - 1) (by omega)
                    replace v1 := v1 (by omega)
                    replace v1 : (z2 212 (4 * (k - 1)) = X0 (k - 1) ∧ z2 212 (4 * (k - 1) + 1) = XD (k - 1) ∧ z2 212 (4 * (k - 1) + 2) = Y (k - 1) ∧ z2 212 (4 * (k - 1) + 3) = YD (k - 1)) ∧ z 213 (k - 1) = H (k - 1) := v1
                    replace u2 : k < t → t ≤ m → (z2 212 (4 * t) = X0 (t - 1) ∧ z2 212 (4 * t + 1) = XD (t - 1) ∧ z2 212 (4 * t + 2) = Y (t - 1) ∧ z2 212 (4 * t + 3) = YD (t - 1)) ∧ z 213 t = H (t - 1) := u2
                    rw [show 4 * k - 4 + 0 = 4 * (k - 1) by omega, show 4 * k - 4 + (0 + 1) = 4 * (k - 1) + 1 by omega, show 4 * k - 4 + (0 + 1 + 1) = 4 * (k - 1) + 2 by omega, show 4 * k - 4 + (0 + 1 + 1 + 1) = 4 * (k - 1) + 3 by omega]
                    refine ⟨fun q => ?_, fun q1 q2 => ?_⟩
                    · unfold zput; simp (disch := omega) only [if_pos, if_neg, ↓reduceIte, true_and, and_true, true_or, or_true, and_self]; exact u1 (by omega)
                    · replace q2 : t ≤ m := q2
                      show (_ = X0 (t - 1) ∧ _ = XD (t - 1) ∧ _ = Y (t - 1) ∧ _ = YD (t - 1)) ∧ _ = H (t - 1)
                      by_cases ee : t = k
                      · subst ee; unfold zput; simp (disch := omega) only [if_pos, if_neg, ↓reduceIte, true_and, and_true, true_or, or_true, and_self]; exact v1
                      · unfold zput; simp (disch := omega) only [if_pos, if_neg, ↓reduceIte, true_and, and_true, true_or, or_true, and_self]; exact u2 (by omega) q2
                  · skip
                    exact absurd h53 (by decide)
      refine r_aload_n rfl rfl ?_
      refine r_getI rfl (so184 hS) ?_
      rw [e43]
      refine r_istore_n rfl (Nat.le_of_ble_eq_true rfl) ?_
      exact lp m hab.2 (Int.le_refl _) zI zP none (frM_r zI) (fun _ _ => rfl) e43 (fun t t0 => ⟨fun q => hel t t0 q, fun q1 q2 => absurd (show t ≤ m from q2) (by omega)⟩)
    have wc := fun (k : Int) (k0 : 0 ≤ k) (k1 : k < m) (Q' : PQ) => x_compare (X := X) (d := d) (Q := Q') (zI := zI) (k := 0) (j := 4 * k) hS (sw203 hS) (sw212 hS) (by omega) (by omega) hp (hel k k0 k1).1 hB (hrg k k0 k1)
    have key : ∀ k : Int, k ≤ m → 0 ≤ k → fstN (fun t => decide (0 ≤ cmpP (X0 t) (XD t) (Y t) (YD t) x xd y yd)) (m - k).toNat k = at0 → Run X (d + 1) c_M_keepMeet 26 [some (pR 184), some (pI ct), some (pI k), none, none] [] S zI zP 0 0 Q := by
      refine loop_up _ m (fun k hk ih h0 hs => ?_)
      refine r_iload_n rfl rfl ?_
      refine r_aload_n rfl rfl ?_
      refine r_getI rfl (so184 hS) ?_
      rw [e43]
      refine r_icmp_ge rfl (by unfold inI; omega) (by unfold inI; omega) (fun h29 => ?_) (fun h29 => ?_)
      · skip
        rw [fstN_e (by omega)] at hs
        rw [hs]; exact put
      · skip
        refine r_aload_n rfl rfl ?_
        refine r_aload_n rfl rfl ?_
        refine r_getR rfl (so184 hS) (sr184_26 hS) ?_
        refine r_iconst rfl ?_
        refine r_aload_n rfl rfl ?_
        refine r_getR rfl (so184 hS) (sr184_44 hS) ?_
        refine r_iconst rfl ?_
        refine r_iload_n rfl rfl ?_
        refine r_imul rfl ?_
        have hkm : k < m := by omega
        refine r_cV5 rfl (so184 hS) (Nat.le_of_ble_eq_true rfl) rfl rfl (wc k h0 hkm _ (fun c => ?_) (fun c => ?_) (fun c => ?_))
        · refine r_if_le rfl (by unfold inI; omega) (fun q => absurd q (by decide)) (fun _ => ?_)
          rw [fstN_miss hkm (by simp only [decide_eq_false_iff_not]; omega)] at hs
          refine r_iinc rfl rfl ?_
          refine r_goto rfl ?_
          exact ih hkm (by omega) hs
        · refine r_if_le rfl (by unfold inI; omega) (fun _ => ?_) (fun q => absurd q (by decide))
          rw [fstN_hit hkm (by simp only [decide_eq_true_eq]; omega)] at hs
          rw [hs]; exact put
        · refine r_if_le rfl (by unfold inI; omega) (fun _ => ?_) (fun q => absurd q (by decide))
          rw [fstN_hit hkm (by simp only [decide_eq_true_eq]; omega)] at hs
          rw [hs]; exact put
    refine r_iconst rfl ?_
    refine r_istore_n rfl (Nat.le_of_ble_eq_true rfl) ?_
    exact key 0 hm0 (Int.le_refl _) (by rw [Int.sub_zero]; exact hat.symm)
  refine wp_in (C := c_M_keepMeet) (ls := [some (pR 184), some (pI ct), none, none, none]) rfl rfl rfl rfl rfl ?_
  refine r_aload_n rfl rfl ?_
  refine r_getR rfl (so184 hS) (sr184_26 hS) ?_
  refine r_iconst rfl ?_
  refine r_aload_n rfl rfl ?_
  refine r_getL rfl (so184 hS) ?_
  rw [e0]
  refine r_last rfl (sw203 hS) (by omega) (by omega) ?_
  refine r_aload_n rfl rfl ?_
  refine r_getR rfl (so184 hS) (sr184_26 hS) ?_
  refine r_iconst rfl ?_
  refine r_aload_n rfl rfl ?_
  refine r_getL rfl (so184 hS) ?_
  rw [zput_row (show (184 : Nat) ≠ 203 by decide), e1]
  refine r_last rfl (sw203 hS) (by omega) (by omega) ?_
  refine r_aload_n rfl rfl ?_
  refine r_getR rfl (so184 hS) (sr184_26 hS) ?_
  refine r_iconst rfl ?_
  refine r_aload_n rfl rfl ?_
  refine r_getL rfl (so184 hS) ?_
  rw [zput_row (show (184 : Nat) ≠ 203 by decide), zput_row (show (184 : Nat) ≠ 203 by decide), e2]
  refine r_last rfl (sw203 hS) (by omega) (by omega) ?_
  refine r_aload_n rfl rfl ?_
  refine r_getR rfl (so184 hS) (sr184_26 hS) ?_
  refine r_iconst rfl ?_
  refine r_aload_n rfl rfl ?_
  refine r_getL rfl (so184 hS) ?_
  rw [zput_row (show (184 : Nat) ≠ 203 by decide), zput_row (show (184 : Nat) ≠ 203 by decide), zput_row (show (184 : Nat) ≠ 203 by decide), e3]
  refine r_last rfl (sw203 hS) (by omega) (by omega) ?_
  exact main _ (fun c hc => by rw [zput_row hc, zput_row hc, zput_row hc, zput_row hc]) (by unfold ptH zput; simp)
