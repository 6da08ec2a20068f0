/-! THE REFERENCE: sums of drafts, forms gathered -/
def b1 (b : Bool) : Int := if b then 1 else 0
theorem b1_i (b : Bool) : b1 b = 0 ∨ b1 b = 1 := by cases b; exact Or.inl rfl; exact Or.inr rfl
theorem addT_t {p u : Int} {I J V : Int → Int} {n k : Int} {G : Int → Option Int} (h : k < n) (hb : bey1 p (I k) (J k) = true) : addT p u I J V (n - k).toNat k G = addT p u I J V (n - (k + 1)).toNat (k + 1) G := by
  rw [show (n - k).toNat = (n - (k + 1)).toNat + 1 by omega]
  show addT p u I J V _ (k + 1) (if bey1 p (I k) (J k) then G else _) = _
  rw [hb]; rfl
set_option maxHeartbeats 4000000 in
theorem x_addForm {X : PX} {d : Nat} {S : SS} {zI zL : ZM} {Q : PQ} (hS : Sk S) {f n : Int} {I J V : Int → Int} (hf : 0 ≤ f ∧ f ≤ 10) (hT : FM zI f n I J V) (hR : FR n I J V) {G1 : Int → Option Int} {b0 : Bool} {B : Int} (hN : NH zI 192 190 G1) (hb0 : zI 184 10 = b1 b0) (hB : DR G1 B) (hB1 : 0 ≤ B ∧ B ≤ 100000) (hQ : ∀ z, frN z zI → NH z 192 190 (sumG G1 n I J V) → z 184 10 = b1 (b0 || sumB G1 n I J) → DR (sumG G1 n I J V) (B + 200) → Q none S z zL) : wpM X (d + 1) fM_addForm [pR 184, pI f] S zI zL Q := by
  have hT0 := hT
  have hR0 := hR
  obtain ⟨e4, hel⟩ := hT
  obtain ⟨hn0, hn40, hrg⟩ := hR
  have outer : ∀ p : Int, p ≤ 81 → 0 ≤ p → ∀ (z : ZM) (G : Int → Option Int) (b : Bool) (y0 y1 y2 y3 : Option PV), (∀ q, y0 ≠ some (pL q)) → (∀ q, y1 ≠ some (pL q)) → (∀ q, y2 ≠ some (pL q)) → frN z zI → NH z 193 191 G1 → NH z 192 190 G → z 184 10 = b1 b → DR G (B + 200) → addO G1 n I J V (81 - p).toNat p G = sumG G1 n I J V → (b || beyO G1 n I J (81 - p).toNat p) = (b0 || sumB G1 n I J) → Run X d c_M_addForm 30 [some (pR 184), some (pI f), some (pI p), y0, y1, y2, y3] [] S z zL 0 0 Q := by
    refine loop_up _ 81 (fun p hk ih h0 z G b y0 y1 y2 y3 hy0 hy1 hy2 hz hO hG hzb hDR hs hsb => ?_)
    have inner : p < 81 → ∀ v0, G1 p = some v0 → ∀ k : Int, k ≤ n → 0 ≤ k → ∀ (z : ZM) (G : Int → Option Int) (b : Bool) (u : Int) (y1 y2 y3 : Option PV), (∀ q, y1 ≠ some (pL q)) → (∀ q, y2 ≠ some (pL q)) → u = 40 * f + k → frN z zI → NH z 193 191 G1 → NH z 192 190 G → z 184 10 = b1 b → DR G (B + 200) → addO G1 n I J V (81 - (p + 1)).toNat (p + 1) (addT p v0 I J V (n - k).toNat k G) = sumG G1 n I J V → (b || (beyT p I J (n - k).toNat k || beyO G1 n I J (81 - (p + 1)).toNat (p + 1))) = (b0 || sumB G1 n I J) → Run X d c_M_addForm 37 [some (pR 184), some (pI f), some (pI p), some (pI u), y1, y2, y3] [] S z zL 0 0 Q := by
      intro hp81 v0 hv0
      refine loop_up _ n (fun k hk2 ih2 k0 z G b u y1 y2 y3 hy1 hy2 hu hz hO hG hzb hDR hs hsb => ?_)
      have e4z : z 186 f = n := by rw [hz.1 186 (by decide) (by decide) (by decide) (by decide) (by decide)]; exact e4
      have ho := (hO p h0 hp81).2 v0 hv0
      have hbv := hB p v0 hv0
      refine r_iload_n rfl rfl ?_
      refine r_bipush rfl ?_
      refine r_iload_n rfl rfl ?_
      refine r_imul rfl ?_
      refine r_aload_n rfl rfl ?_
      refine r_getR rfl (so184 hS) (sr184_2 hS) ?_
      refine r_iload_n rfl rfl ?_
      refine r_iald rfl (sw186 hS) (by omega) (by omega) ?_
      rw [e4z]
      refine r_iadd rfl ?_
      refine r_icmp_ge rfl (by unfold inI; omega) (by unfold inI; omega) (fun h46 => ?_) (fun h46 => ?_)
      · skip
        rw [addT_e (by omega)] at hs
        rw [beyT_e (by omega), Bool.false_or] at hsb
        refine r_iinc rfl rfl ?_
        refine r_goto rfl ?_
        exact ih hp81 (by omega) z G b _ _ _ _ (fun _ => by simp) hy1 hy2 hz hO hG hzb hDR hs hsb
      · skip
        obtain ⟨g1, g2, g3⟩ := hel k k0 (by omega)
        have rg := hrg k k0 (by omega)
        rw [← hu, ← hz.1 187 (by decide) (by decide) (by decide) (by decide) (by decide)] at g1
        rw [← hu, ← hz.1 188 (by decide) (by decide) (by decide) (by decide) (by decide)] at g2
        rw [← hu, ← hz.1 189 (by decide) (by decide) (by decide) (by decide) (by decide)] at g3
        refine r_aload_n rfl rfl ?_
        refine r_getR rfl (so184 hS) (sr184_9 hS) ?_
        refine r_iload_n rfl rfl ?_
        refine r_bald rfl (sw193 hS) (by omega) (by omega) ?_
        rw [ho.1]
        refine r_if_eq rfl (by unfold inI; omega) (fun h51 => ?_) (fun h51 => ?_)
        · skip
          exact absurd h51 (by decide)
        · skip
          refine r_iload_n rfl rfl ?_
          refine r_bipush rfl ?_
          refine r_idiv rfl (by unfold inI; omega) (by unfold inI; omega) (by omega) ?_
          rw [td9 h0]
          refine r_aload_n rfl rfl ?_
          refine r_getR rfl (so184 hS) (sr184_3 hS) ?_
          refine r_iload_n rfl rfl ?_
          refine r_iald rfl (sw187 hS) (by omega) (by omega) ?_
          rw [g1]
          refine r_iadd rfl ?_
          refine r_istore rfl (Nat.le_of_ble_eq_true rfl) ?_
          refine r_iload_n rfl rfl ?_
          refine r_bipush rfl ?_
          refine r_irem rfl (by unfold inI; omega) (by unfold inI; omega) (by omega) ?_
          rw [tm9 h0]
          refine r_aload_n rfl rfl ?_
          refine r_getR rfl (so184 hS) (sr184_4 hS) ?_
          refine r_iload_n rfl rfl ?_
          refine r_iald rfl (sw188 hS) (by omega) (by omega) ?_
          rw [g2]
          refine r_iadd rfl ?_
          refine r_istore rfl (Nat.le_of_ble_eq_true rfl) ?_
          refine r_iload rfl rfl ?_
          refine r_bipush rfl ?_
          refine r_icmp_gt rfl (by unfold inI; omega) (by unfold inI; omega) (fun h72 => ?_) (fun h72 => ?_)
          · skip
            refine r_aload_n rfl rfl ?_
            refine r_iconst rfl ?_
            refine r_putZ rfl (so184 hS) (by first | exact Or.inl rfl | exact Or.inr rfl | assumption) ?_
            refine r_goto rfl ?_
            have hbt : bey1 p (I k) (J k) = true := bey1_t.mpr (by omega)
            rw [addT_t (by omega) hbt] at hs
            rw [beyT_s (by omega), hbt, Bool.true_or, Bool.true_or, Bool.or_true] at hsb
            refine r_iinc rfl rfl ?_
            refine r_goto rfl ?_
            exact ih2 (by omega) (by omega) _ G true _ _ _ _ (fun _ => by simp) (fun _ => by simp) (by omega) (frN_b hz) (NH_fr hO (by rw [zput_row (by decide)]) (by rw [zput_row (by decide)])) (NH_fr hG (by rw [zput_row (by decide)]) (by rw [zput_row (by decide)])) zput_at hDR hs (by rw [Bool.true_or]; exact hsb)
          · skip
            refine r_iload rfl rfl ?_
            refine r_bipush rfl ?_
            refine r_icmp_le rfl (by unfold inI; omega) (by unfold inI; omega) (fun h75 => ?_) (fun h75 => ?_)
            · skip
              have hbf : bey1 p (I k) (J k) = false := bey1_f.mpr (by omega)
              have hix : 9 * (p / 9 + I k) + (p % 9 + J k) = (p / 9 + I k) * 9 + (p % 9 + J k) := by omega
              rw [addT_s (by omega) hbf] at hs
              rw [beyT_s (by omega), hbf, Bool.false_or] at hsb
              obtain ⟨ix, hix2⟩ : ∃ ix, ix = (p / 9 + I k) * 9 + (p % 9 + J k) := ⟨_, rfl⟩
              rw [← hix2] at hix hs
              have ixb : 0 ≤ ix ∧ ix < 81 := by omega
              have hDR2 : DR (gl G ix (v0 + V k)) (B + 200) := DR_gl hDR (by omega)
              have hgo : ∀ z2 : ZM, frN z2 zI → NH z2 193 191 G1 → NH z2 192 190 (gl G ix (v0 + V k)) → z2 184 10 = b1 b → Run X d c_M_addForm 127 [some (pR 184), some (pI f), some (pI p), some (pI u), some (pI (p / 9 + I k)), some (pI (p % 9 + J k)), some (pI (v0 + V k))] [] S z2 zL 0 0 Q := by
                intro z2 a1 a2 a3 a4
                refine r_iinc rfl rfl ?_
                refine r_goto rfl ?_
                exact ih2 (by omega) (by omega) z2 _ b _ _ _ _ (fun _ => by simp) (fun _ => by simp) (by omega) a1 a2 a3 a4 hDR2 hs hsb
              have h01 := NH_01 hG ixb.1 ixb.2
              refine r_aload_n rfl rfl ?_
              refine r_getR rfl (so184 hS) (sr184_7 hS) ?_
              refine r_iload_n rfl rfl ?_
              refine r_iald rfl (sw191 hS) (by omega) (by omega) ?_
              rw [ho.2]
              refine r_aload_n rfl rfl ?_
              refine r_getR rfl (so184 hS) (sr184_5 hS) ?_
              refine r_iload_n rfl rfl ?_
              refine r_iald rfl (sw189 hS) (by omega) (by omega) ?_
              rw [g3]
              refine r_iadd rfl ?_
              refine r_istore rfl (Nat.le_of_ble_eq_true rfl) ?_
              refine r_aload_n rfl rfl ?_
              refine r_getR rfl (so184 hS) (sr184_8 hS) ?_
              refine r_bipush rfl ?_
              refine r_iload rfl rfl ?_
              refine r_imul rfl ?_
              refine r_iload rfl rfl ?_
              refine r_iadd rfl ?_
              rw [hix]
              refine r_bald rfl (sw192 hS) (by omega) (by omega) ?_
              refine r_if_eq rfl (by unfold inI; omega) (fun h98 => ?_) (fun h98 => ?_)
              · skip
                refine r_aload_n rfl rfl ?_
                refine r_getR rfl (so184 hS) (sr184_6 hS) ?_
                refine r_bipush rfl ?_
                refine r_iload rfl rfl ?_
                refine r_imul rfl ?_
                refine r_iload rfl rfl ?_
                refine r_iadd rfl ?_
                rw [hix]
                refine r_iload rfl rfl ?_
                refine r_iast rfl (sw190 hS) (by omega) (by omega) ?_
                refine r_aload_n rfl rfl ?_
                refine r_getR rfl (so184 hS) (sr184_8 hS) ?_
                refine r_bipush rfl ?_
                refine r_iload rfl rfl ?_
                refine r_imul rfl ?_
                refine r_iload rfl rfl ?_
                refine r_iadd rfl ?_
                rw [hix]
                refine r_iconst rfl ?_
                refine r_bast rfl (sw192 hS) (by omega) (by omega) (by first | exact Or.inl rfl | exact Or.inr rfl | assumption) ?_
                have hnone : G ix = none := by
                  cases hc : G ix with
                  | none => rfl
                  | some w => exact absurd ((hG ix ixb.1 ixb.2).2 w hc).1 (by omega)
                exact hgo _ (frN_p (frN_p hz (by decide)) (by decide)) (NH_fr hO (by rw [zput_row (by decide), zput_row (by decide)]) (by rw [zput_row (by decide), zput_row (by decide)])) (NH_put hG (by rw [hnone])) (by rw [zput_row (by decide), zput_row (by decide)]; exact hzb)
              · skip
                refine r_iload rfl rfl ?_
                refine r_aload_n rfl rfl ?_
                refine r_getR rfl (so184 hS) (sr184_6 hS) ?_
                refine r_bipush rfl ?_
                refine r_iload rfl rfl ?_
                refine r_imul rfl ?_
                refine r_iload rfl rfl ?_
                refine r_iadd rfl ?_
                rw [hix]
                refine r_iald rfl (sw190 hS) (by omega) (by omega) ?_
                have hsome : ∃ w, G ix = some w := by
                  cases hc : G ix with
                  | none => exact absurd ((hG ix ixb.1 ixb.2).1 hc) h98
                  | some w => exact ⟨w, rfl⟩
                obtain ⟨w, hw⟩ := hsome
                have hwv := ((hG ix ixb.1 ixb.2).2 w hw).2
                have hwb := hDR ix w hw
                rw [hwv]
                refine r_icmp_ge rfl (by unfold inI; omega) (by unfold inI; omega) (fun h108 => ?_) (fun h108 => ?_)
                · skip
                  refine r_aload_n rfl rfl ?_
                  refine r_getR rfl (so184 hS) (sr184_8 hS) ?_
                  refine r_bipush rfl ?_
                  refine r_iload rfl rfl ?_
                  refine r_imul rfl ?_
                  refine r_iload rfl rfl ?_
                  refine r_iadd rfl ?_
                  rw [hix]
                  refine r_iconst rfl ?_
                  refine r_bast rfl (sw192 hS) (by omega) (by omega) (by first | exact Or.inl rfl | exact Or.inr rfl | assumption) ?_
                  exact hgo _ (frN_p hz (by decide)) (NH_fr hO (by rw [zput_row (by decide)]) (by rw [zput_row (by decide)])) (NH_keep hG ixb hw (by omega)) (by rw [zput_row (by decide)]; exact hzb)
                · skip
                  refine r_aload_n rfl rfl ?_
                  refine r_getR rfl (so184 hS) (sr184_6 hS) ?_
                  refine r_bipush rfl ?_
                  refine r_iload rfl rfl ?_
                  refine r_imul rfl ?_
                  refine r_iload rfl rfl ?_
                  refine r_iadd rfl ?_
                  rw [hix]
                  refine r_iload rfl rfl ?_
                  refine r_iast rfl (sw190 hS) (by omega) (by omega) ?_
                  refine r_aload_n rfl rfl ?_
                  refine r_getR rfl (so184 hS) (sr184_8 hS) ?_
                  refine r_bipush rfl ?_
                  refine r_iload rfl rfl ?_
                  refine r_imul rfl ?_
                  refine r_iload rfl rfl ?_
                  refine r_iadd rfl ?_
                  rw [hix]
                  refine r_iconst rfl ?_
                  refine r_bast rfl (sw192 hS) (by omega) (by omega) (by first | exact Or.inl rfl | exact Or.inr rfl | assumption) ?_
                  exact hgo _ (frN_p (frN_p hz (by decide)) (by decide)) (NH_fr hO (by rw [zput_row (by decide), zput_row (by decide)]) (by rw [zput_row (by decide), zput_row (by decide)])) (NH_put hG (by rw [hw]; show _ = min w _; omega)) (by rw [zput_row (by decide), zput_row (by decide)]; exact hzb)
            · skip
              refine r_aload_n rfl rfl ?_
              refine r_iconst rfl ?_
              refine r_putZ rfl (so184 hS) (by first | exact Or.inl rfl | exact Or.inr rfl | assumption) ?_
              refine r_goto rfl ?_
              have hbt : bey1 p (I k) (J k) = true := bey1_t.mpr (by omega)
              rw [addT_t (by omega) hbt] at hs
              rw [beyT_s (by omega), hbt, Bool.true_or, Bool.true_or, Bool.or_true] at hsb
              refine r_iinc rfl rfl ?_
              refine r_goto rfl ?_
              exact ih2 (by omega) (by omega) _ G true _ _ _ _ (fun _ => by simp) (fun _ => by simp) (by omega) (frN_b hz) (NH_fr hO (by rw [zput_row (by decide)]) (by rw [zput_row (by decide)])) (NH_fr hG (by rw [zput_row (by decide)]) (by rw [zput_row (by decide)])) zput_at hDR hs (by rw [Bool.true_or]; exact hsb)
    refine r_iload_n rfl rfl ?_
    refine r_bipush rfl ?_
    refine r_icmp_ge rfl (by unfold inI; omega) (by unfold inI; omega) (fun h32 => ?_) (fun h32 => ?_)
    · skip
      refine r_ret rfl ?_
      rw [addO_e (by omega)] at hs
      rw [beyO_e (by omega), Bool.or_false] at hsb
      rw [← hs] at hQ
      exact hQ z hz hG (by rw [hzb, hsb]) hDR
    · skip
      refine r_bipush rfl ?_
      refine r_iload_n rfl rfl ?_
      refine r_imul rfl ?_
      refine r_istore_n rfl (Nat.le_of_ble_eq_true rfl) ?_
      cases hc : G1 p with
      | some v0 =>
        rw [addO_s (by omega), hc] at hs
        rw [beyO_s (by omega), hc] at hsb
        exact inner (by omega) v0 hc 0 hn0 (Int.le_refl _) z G b _ _ _ _ hy1 hy2 (by omega) hz hO hG hzb hDR (by rw [Int.sub_zero]; exact hs) (by rw [Int.sub_zero]; exact hsb)
      | none =>
        rw [addO_s (by omega), hc] at hs
        rw [beyO_s (by omega), hc] at hsb
        have ho := (hO p h0 (by omega)).1 hc
        have e4z : z 186 f = n := by rw [hz.1 186 (by decide) (by decide) (by decide) (by decide) (by decide)]; exact e4
        have hn30 : Run X d c_M_addForm 129 [some (pR 184), some (pI f), some (pI p), some (pI (40 * f)), y1, y2, y3] [] S z zL 0 0 Q := by
          refine r_iinc rfl rfl ?_
          refine r_goto rfl ?_
          exact ih (by omega) (by omega) z G b _ _ _ _ (fun _ => by simp) hy1 hy2 hz hO hG hzb hDR hs (by rw [Bool.false_or] at hsb; exact hsb)
        refine r_iload_n rfl rfl ?_
        refine r_bipush rfl ?_
        refine r_iload_n rfl rfl ?_
        refine r_imul rfl ?_
        refine r_aload_n rfl rfl ?_
        refine r_getR rfl (so184 hS) (sr184_2 hS) ?_
        refine r_iload_n rfl rfl ?_
        refine r_iald rfl (sw186 hS) (by omega) (by omega) ?_
        rw [e4z]
        refine r_iadd rfl ?_
        refine r_icmp_ge rfl (by unfold inI; omega) (by unfold inI; omega) (fun h46 => ?_) (fun h46 => ?_)
        · skip
          exact hn30
        · skip
          refine r_aload_n rfl rfl ?_
          refine r_getR rfl (so184 hS) (sr184_9 hS) ?_
          refine r_iload_n rfl rfl ?_
          refine r_bald rfl (sw193 hS) (by omega) (by omega) ?_
          rw [ho]
          refine r_if_eq rfl (by unfold inI; omega) (fun h51 => ?_) (fun h51 => ?_)
          · skip
            exact hn30
          · skip
            exact absurd rfl h51
  have lp1 : ∀ k : Int, k ≤ 81 → 0 ≤ k → ∀ z : ZM, frN z zI → z 184 10 = b1 b0 → (∀ p, 0 ≤ p → p < 81 → (p < k → z 193 p = zI 192 p ∧ z 191 p = zI 190 p ∧ z 192 p = 0) ∧ (k ≤ p → z 192 p = zI 192 p ∧ z 190 p = zI 190 p)) → Run X d c_M_addForm 2 [some (pR 184), some (pI f), some (pI k), none, none, none, none] [] S z zL 0 0 Q := by
    refine loop_up _ 81 (fun k hk ih h0 z hz hzb h0z => ?_)
    refine r_iload_n rfl rfl ?_
    refine r_bipush rfl ?_
    refine r_icmp_ge rfl (by unfold inI; omega) (by unfold inI; omega) (fun h4 => ?_) (fun h4 => ?_)
    · skip
      refine r_iconst rfl ?_
      refine r_istore_n rfl (Nat.le_of_ble_eq_true rfl) ?_
      refine outer 0 (by decide) (Int.le_refl _) z (fun _ => none) b0 _ _ _ _ (fun _ => by simp) (fun _ => by simp) (fun _ => by simp) hz (fun p p0 p1 => ?_) (fun p p0 p1 => ⟨fun _ => ((h0z p p0 p1).1 (by omega)).2.2, fun v hv => by cases hv⟩) hzb (fun p v hv => by cases hv) rfl rfl
      obtain ⟨a1, a2, a3⟩ := (h0z p p0 p1).1 (by omega)
      rw [a1, a2]; exact hN p p0 p1
    · skip
      have hk1 := (h0z k h0 (by omega)).2 (Int.le_refl _)
      have h01 := NH_01 hN h0 (show k < 81 by omega)
      refine r_aload_n rfl rfl ?_
      refine r_getR rfl (so184 hS) (sr184_7 hS) ?_
      refine r_iload_n rfl rfl ?_
      refine r_aload_n rfl rfl ?_
      refine r_getR rfl (so184 hS) (sr184_6 hS) ?_
      refine r_iload_n rfl rfl ?_
      refine r_iald rfl (sw190 hS) (by omega) (by omega) ?_
      rw [hk1.2]
      refine r_iast rfl (sw191 hS) (by omega) (by omega) ?_
      refine r_aload_n rfl rfl ?_
      refine r_getR rfl (so184 hS) (sr184_9 hS) ?_
      refine r_iload_n rfl rfl ?_
      refine r_aload_n rfl rfl ?_
      refine r_getR rfl (so184 hS) (sr184_8 hS) ?_
      refine r_iload_n rfl rfl ?_
      refine r_bald rfl (sw192 hS) (by omega) (by omega) ?_
      rw [zput_row (show (192 : Nat) ≠ 191 by decide), hk1.1]
      refine r_bast rfl (sw193 hS) (by omega) (by omega) (by first | exact Or.inl rfl | exact Or.inr rfl | assumption) ?_
      refine r_aload_n rfl rfl ?_
      refine r_getR rfl (so184 hS) (sr184_8 hS) ?_
      refine r_iload_n rfl rfl ?_
      refine r_iconst rfl ?_
      refine r_bast rfl (sw192 hS) (by omega) (by omega) (by first | exact Or.inl rfl | exact Or.inr rfl | assumption) ?_
      refine r_iinc rfl rfl ?_
      refine r_goto rfl ?_
      refine ih (by omega) (by omega) _ (frN_p (frN_p (frN_p hz (by decide)) (by decide)) (by decide)) (by rw [zput_row (by decide), zput_row (by decide), zput_row (by decide)]; exact hzb) (fun p p0 p1 => ⟨fun q => ?_, fun q => ?_⟩)
      · by_cases e : p = k
        · subst e; unfold zput; simp (disch := omega) only [if_pos, if_neg, ↓reduceIte, true_and, and_true, true_or, or_true, and_self]
        · obtain ⟨a1, a2, a3⟩ := (h0z p p0 p1).1 (by omega)
          unfold zput; simp (disch := omega) only [if_pos, if_neg, ↓reduceIte, true_and, and_true, true_or, or_true, and_self]; exact ⟨a1, a2, a3⟩
      · obtain ⟨a1, a2⟩ := (h0z p p0 p1).2 (by omega)
        unfold zput; simp (disch := omega) only [if_pos, if_neg, ↓reduceIte, true_and, and_true, true_or, or_true, and_self]; exact ⟨a1, a2⟩
  refine wp_in (C := c_M_addForm) (ls := [some (pR 184), some (pI f), none, none, none, none, none]) rfl rfl rfl rfl rfl ?_
  refine r_iconst rfl ?_
  refine r_istore_n rfl (Nat.le_of_ble_eq_true rfl) ?_
  exact lp1 0 (by decide) (Int.le_refl _) zI (frN_r _) hb0 (fun p p0 p1 => ⟨fun q => by omega, fun _ => ⟨rfl, rfl⟩⟩)
/-- the terms of a form as one -/
def FMv (z : ZM) (f : Int) (F : FV) : Prop := FM z f F.1 F.2.1 F.2.2.1 F.2.2.2
theorem ap_FM {z' : ZM} {f : Int} {F : FV} {p v : Int} (hn : 0 ≤ F.1) (hb : FBv F p) (hp : FM z' f (F.1 + 1) (insF F.2.1 (psn F.1 F.2.1 F.2.2.1 (p / 9) (p % 9)) (p / 9)) (insF F.2.2.1 (psn F.1 F.2.1 F.2.2.1 (p / 9) (p % 9)) (p % 9)) (insF F.2.2.2 (psn F.1 F.2.1 F.2.2.1 (p / 9) (p % 9)) v)) : FMv z' f (apV F (p / 9) (p % 9) v) := by
  rw [ap_psn hn hb] at hp
  obtain ⟨g1, g2⟩ := hp
  refine ⟨g1, fun t t0 t1 => ?_⟩
  have t1 : t < F.1 + 1 := t1
  obtain ⟨k1, k2, k3⟩ := g2 t t0 t1
  rw [k1, k2, k3]
  show insF F.2.1 F.1 (p / 9) t = updF F.2.1 F.1 (p / 9) t ∧ insF F.2.2.1 F.1 (p % 9) t = updF F.2.2.1 F.1 (p % 9) t ∧ insF F.2.2.2 F.1 v t = updF F.2.2.2 F.1 v t
  unfold insF updF
  by_cases e : t = F.1
  · subst e; simp (disch := omega) only [if_pos, if_neg, ↓reduceIte, true_and, and_true, true_or, or_true, and_self]
  · simp (disch := omega) only [if_pos, if_neg, ↓reduceIte, true_and, and_true, true_or, or_true, and_self]
theorem FB_no {F : FV} {p : Int} (hb : FBv F p) : ∀ t, 0 ≤ t → t < F.1 → ¬ (F.2.1 t = p / 9 ∧ F.2.2.1 t = p % 9) := fun t t0 t1 q => by
  have := hb t t0 t1
  unfold lexlt at this; omega
/-- what a new form changes: its own terms, its kind, how many there are -/
def frG (f : Int) (z' z : ZM) : Prop := (∀ c, c ≠ 184 → c ≠ 185 → c ≠ 186 → c ≠ 187 → c ≠ 188 → c ≠ 189 → z' c = z c) ∧ (∀ k, k ≠ 0 → z' 184 k = z 184 k) ∧ (∀ k, k ≠ f → z' 185 k = z 185 k) ∧ (∀ k, k ≠ f → z' 186 k = z 186 k) ∧ (∀ k, (k < 40 * f ∨ 40 * f + 40 ≤ k) → z' 187 k = z 187 k ∧ z' 188 k = z 188 k ∧ z' 189 k = z 189 k)
theorem FM_frG {z z' : ZM} {f g n : Int} {I J V : Int → Int} (h : FM z g n I J V) (hn : n ≤ 40) (hg : g ≠ f) (hz : frG f z' z) : FM z' g n I J V := by
  refine ⟨(hz.2.2.2.1 g hg).trans h.1, fun t t0 t1 => ?_⟩
  obtain ⟨a, b, c⟩ := hz.2.2.2.2 (40 * g + t) (by omega)
  rw [a, b, c]; exact h.2 t t0 t1
set_option maxHeartbeats 4000000 in
theorem x_gather {X : PX} {d : Nat} {S : SS} {zI zL : ZM} {Q : PQ} (hS : Sk S) {kk : Int} {G : Int → Option Int} {b : Bool} {B : Int} (hF : xF zI) (hN : NH zI 192 190 G) (hb : zI 184 10 = b1 b) (hB : DR G B) (hB1 : 0 ≤ B ∧ B ≤ 100000) (hQ0 : ¬ (b = false ∧ zI 184 0 < 10 ∧ fitG G = true) → Q (some (pI (-4))) S zI zL) (hQ1 : b = false → zI 184 0 < 10 → fitG G = true → ∀ z, frG (zI 184 0) z zI → z 184 0 = zI 184 0 + 1 → z 185 (zI 184 0) = kk → FMv z (zI 184 0) (pourV G) → FRv (pourV G) → FSv (pourV G) → Q (some (pI (zI 184 0))) S z zL) : wpM X (d + 2) fM_gather [pR 184, pI kk] S zI zL Q := by
  unfold xF at hF
  have hbi := b1_i b
  obtain ⟨F, hFd⟩ : ∃ F, F = zI 184 0 := ⟨_, rfl⟩
  rw [← hFd] at hF hQ0 hQ1
  have lp2 : b = false → F < 10 → fitG G = true → ∀ p : Int, p ≤ 81 → 0 ≤ p → ∀ (z : ZM) (T : FV) (y2 y3 : Int), frF F z (zput (zput zI 185 F kk) 186 F 0) → FMv z F T → FRv T → FSv T → FBv T p → fitT G (81 - p).toNat p T.1 = true → pourT G (81 - p).toNat p T = pourV G → Run X (d + 1) c_M_gather 63 [some (pR 184), some (pI kk), some (pI y2), some (pI y3), some (pI p)] [] S z zL 0 0 Q := by
    intro hbf hF10 hfit
    refine loop_up _ 81 (fun p hk ih h0 z T y2 y3 hz hH hR hS2 hfb hft hs => ?_)
    have hz0 : z 184 0 = F := by rw [hz.1 184 (by decide) (by decide) (by decide) (by decide), zput_row (by decide), zput_row (by decide)]; exact hFd.symm
    have hGz : NH z 192 190 G := NH_fr hN (by rw [hz.1 192 (by decide) (by decide) (by decide) (by decide), zput_row (by decide), zput_row (by decide)]) (by rw [hz.1 190 (by decide) (by decide) (by decide) (by decide), zput_row (by decide), zput_row (by decide)])
    refine r_iload rfl rfl ?_
    refine r_bipush rfl ?_
    refine r_icmp_ge rfl (by unfold inI; omega) (by unfold inI; omega) (fun h65 => ?_) (fun h65 => ?_)
    · skip
      refine r_aload_n rfl rfl ?_
      refine r_dupR rfl ?_
      refine r_getI rfl (so184 hS) ?_
      rw [hz0]
      refine r_iconst rfl ?_
      refine r_iadd rfl ?_
      refine r_putI rfl (so184 hS) ?_
      refine r_aload_n rfl rfl ?_
      refine r_getI rfl (so184 hS) ?_
      rw [zput_at]
      refine r_iconst rfl ?_
      refine r_isub rfl ?_
      refine r_iret rfl ?_
      rw [pourT_e (by omega)] at hs
      subst hs
      rw [show F + 1 - 1 = F by omega]
      refine hQ1 hbf hF10 hfit _ ⟨fun c c0 c1 c2 c3 c4 c5 => ?_, fun k hk => ?_, fun k hk => ?_, fun k hk => ?_, fun k hk => ?_⟩ zput_at ?_ ?_ hR hS2
      · rw [zput_row c0, hz.1 c c2 c3 c4 c5, zput_row c2, zput_row c1]
      · rw [zput_off hk, hz.1 184 (by decide) (by decide) (by decide) (by decide), zput_row (by decide), zput_row (by decide)]
      · rw [zput_row (by decide), hz.1 185 (by decide) (by decide) (by decide) (by decide), zput_row (by decide), zput_off hk]
      · rw [zput_row (by decide), hz.2.1 k hk, zput_off hk, zput_row (by decide)]
      · obtain ⟨q1, q2, q3⟩ := hz.2.2 k hk
        rw [zput_row (by decide), zput_row (by decide), zput_row (by decide), q1, q2, q3, zput_row (by decide), zput_row (by decide), zput_row (by decide), zput_row (by decide), zput_row (by decide), zput_row (by decide)]
        exact ⟨rfl, rfl, rfl⟩
      · rw [zput_row (by decide), hz.1 185 (by decide) (by decide) (by decide) (by decide), zput_row (by decide), zput_at]
      · exact FM_fr hH (fun c k0 k1 => zput_row (by omega))
    · skip
      cases hu1 : G p with
      | none =>
        have e0 := (hGz p h0 (by omega)).1 hu1
        refine r_aload_n rfl rfl ?_
        refine r_getR rfl (so184 hS) (sr184_8 hS) ?_
        refine r_iload rfl rfl ?_
        refine r_bald rfl (sw192 hS) (by omega) (by omega) ?_
        rw [e0]
        refine r_if_eq rfl (by unfold inI; omega) (fun h70 => ?_) (fun h70 => ?_)
        · skip
          refine r_iinc rfl rfl ?_
          refine r_goto rfl ?_
          exact ih (by omega) (by omega) z T _ _ hz hH hR hS2 (FB_next hR hfb) (by rw [fitT_n (by omega) hu1] at hft; exact hft) (by rw [pourT_s (by omega), hu1] at hs; exact hs)
        · skip
          exact absurd rfl h70
      | some x =>
        obtain ⟨e0, ex⟩ := (hGz p h0 (by omega)).2 x hu1
        rw [fitT_s (by omega) hu1] at hft
        by_cases hw : -200 ≤ x ∧ x ≤ 200
        case neg => rw [if_neg hw] at hft; cases hft
        rw [if_pos hw] at hft
        have hn40 : T.1 < 40 := by have := fit_le _ _ _ hft; omega
        refine r_aload_n rfl rfl ?_
        refine r_getR rfl (so184 hS) (sr184_8 hS) ?_
        refine r_iload rfl rfl ?_
        refine r_bald rfl (sw192 hS) (by omega) (by omega) ?_
        rw [e0]
        refine r_if_eq rfl (by unfold inI; omega) (fun h70 => ?_) (fun h70 => ?_)
        · skip
          exact absurd h70 (by decide)
        · skip
          refine r_aload_n rfl rfl ?_
          refine r_aload_n rfl rfl ?_
          refine r_getI rfl (so184 hS) ?_
          rw [hz0]
          refine r_iload rfl rfl ?_
          refine r_bipush rfl ?_
          refine r_idiv rfl (by unfold inI; omega) (by unfold inI; omega) (by omega) ?_
          rw [td9 h0]
          refine r_iload rfl rfl ?_
          refine r_bipush rfl ?_
          refine r_irem rfl (by unfold inI; omega) (by unfold inI; omega) (by omega) ?_
          rw [tm9 h0]
          refine r_aload_n rfl rfl ?_
          refine r_getR rfl (so184 hS) (sr184_6 hS) ?_
          refine r_iload rfl rfl ?_
          refine r_iald rfl (sw190 hS) (by omega) (by omega) ?_
          rw [ex]
          refine r_cV5 rfl (so184 hS) (Nat.le_of_ble_eq_true rfl) rfl rfl (x_insert hS (by omega) hH hR hS2 hn40 (by unfold inI; omega) (by unfold inI; omega) (FB_no hfb) (fun z2 f2 hM2 => ?_))
          refine r_iinc rfl rfl ?_
          refine r_goto rfl ?_
          exact ih (by omega) (by omega) z2 (apV T (p / 9) (p % 9) x) _ _ (frF_t hz f2) (ap_FM hR.1 hfb hM2) (ap_FR hR hn40 ⟨h0, by omega⟩ hw) (ap_FS hS2 hfb) (ap_FB hR hfb) hft (by rw [pourT_s (by omega), hu1] at hs; exact hs)
  have lp1 : ∀ p : Int, p ≤ 81 → 0 ≤ p → ∀ n ft : Int, 0 ≤ n → n ≤ p → ((ft = 1 ∧ b = false ∧ F < 10 ∧ fitT G (81 - p).toNat p n = fitG G) ∨ (ft = 0 ∧ ¬ (b = false ∧ F < 10 ∧ fitG G = true))) → Run X (d + 1) c_M_gather 15 [some (pR 184), some (pI kk), some (pI n), some (pI ft), some (pI p)] [] S zI zL 0 0 Q := by
    refine loop_up _ 81 (fun p hk ih h0 n ft n0 n1 hs => ?_)
    refine r_iload rfl rfl ?_
    refine r_bipush rfl ?_
    refine r_icmp_ge rfl (by unfold inI; omega) (by unfold inI; omega) (fun h17 => ?_) (fun h17 => ?_)
    · skip
      refine r_iload_n rfl rfl ?_
      refine r_if_eq rfl (by unfold inI; omega) (fun h43 => ?_) (fun h43 => ?_)
      · skip
        refine r_bipush rfl ?_
        refine r_iret rfl ?_
        exact hQ0 (by rcases hs with ⟨q, -⟩ | ⟨-, q⟩; exact absurd q (by omega); exact q)
      · skip
        refine r_iload_n rfl rfl ?_
        refine r_bipush rfl ?_
        refine r_icmp_le rfl (by unfold inI; omega) (by unfold inI; omega) (fun h46 => ?_) (fun h46 => ?_)
        · skip
          obtain ⟨-, k1, k2, k3⟩ | ⟨k0, -⟩ := hs
          rotate_left
          · exact absurd k0 h43
          rw [fitT_e (by omega), decide_eq_true (by omega)] at k3
          refine r_aload_n rfl rfl ?_
          refine r_getR rfl (so184 hS) (sr184_1 hS) ?_
          refine r_aload_n rfl rfl ?_
          refine r_getI rfl (so184 hS) ?_
          rw [← hFd]
          refine r_iload_n rfl rfl ?_
          refine r_iast rfl (sw185 hS) (by omega) (by omega) ?_
          refine r_aload_n rfl rfl ?_
          refine r_getR rfl (so184 hS) (sr184_2 hS) ?_
          refine r_aload_n rfl rfl ?_
          refine r_getI rfl (so184 hS) ?_
          rw [zput_row (show (184 : Nat) ≠ 185 by decide), ← hFd]
          refine r_iconst rfl ?_
          refine r_iast rfl (sw186 hS) (by omega) (by omega) ?_
          refine r_iconst rfl ?_
          refine r_istore rfl (Nat.le_of_ble_eq_true rfl) ?_
          refine lp2 k1 k2 k3.symm 0 (by decide) (Int.le_refl _) _ F0V _ _ (frF_r _ _) ⟨zput_at, fun t t0 t1 => absurd t1 (by show ¬ t < 0; omega)⟩ ⟨Int.le_refl _, by show (0 : Int) ≤ 40; omega, fun t t0 t1 => absurd t1 (by show ¬ t < 0; omega)⟩ (fun s t s0 st t1 => absurd t1 (by show ¬ t < 0; omega)) (fun t t0 t1 => absurd t1 (by show ¬ t < 0; omega)) k3.symm rfl
        · skip
          refine r_bipush rfl ?_
          refine r_iret rfl ?_
          exact hQ0 (fun q => by obtain ⟨q1, q2, q3⟩ := q; rcases hs with ⟨-, -, -, hs⟩ | ⟨-, hs⟩; rw [fitT_e (by omega), decide_eq_false (by omega)] at hs; rw [← hs] at q3; exact absurd q3 (by decide); exact hs ⟨q1, q2, q3⟩)
    · skip
      cases hu1 : G p with
      | none =>
        have e0 := (hN p h0 (by omega)).1 hu1
        rw [fitT_n (by omega) hu1] at hs
        refine r_aload_n rfl rfl ?_
        refine r_getR rfl (so184 hS) (sr184_8 hS) ?_
        refine r_iload rfl rfl ?_
        refine r_bald rfl (sw192 hS) (by omega) (by omega) ?_
        rw [e0]
        refine r_if_ne rfl (by unfold inI; omega) (fun h22 => ?_) (fun h22 => ?_)
        · skip
          exact absurd rfl h22
        · skip
          refine r_goto rfl ?_
          refine r_iinc rfl rfl ?_
          refine r_goto rfl ?_
          exact ih (by omega) (by omega) n ft n0 (by omega) hs
      | some x =>
        obtain ⟨e0, ex⟩ := (hN p h0 (by omega)).2 x hu1
        have hxb := hB p x hu1
        rw [fitT_s (by omega) hu1] at hs
        refine r_aload_n rfl rfl ?_
        refine r_getR rfl (so184 hS) (sr184_8 hS) ?_
        refine r_iload rfl rfl ?_
        refine r_bald rfl (sw192 hS) (by omega) (by omega) ?_
        rw [e0]
        refine r_if_ne rfl (by unfold inI; omega) (fun h22 => ?_) (fun h22 => ?_)
        · skip
          refine r_iinc rfl rfl ?_
          refine r_iload_n rfl rfl ?_
          refine r_if_eq rfl (by unfold inI; omega) (fun h26 => ?_) (fun h26 => ?_)
          · skip
            refine r_iconst rfl ?_
            refine r_istore_n rfl (Nat.le_of_ble_eq_true rfl) ?_
            refine r_iinc rfl rfl ?_
            refine r_goto rfl ?_
            exact ih (by omega) (by omega) (n + 1) 0 (by omega) (by omega) (Or.inr ⟨rfl, by rcases hs with ⟨q, -⟩ | ⟨-, q⟩; omega; exact q⟩)
          · skip
            refine r_aload_n rfl rfl ?_
            refine r_aload_n rfl rfl ?_
            refine r_getR rfl (so184 hS) (sr184_6 hS) ?_
            refine r_iload rfl rfl ?_
            refine r_iald rfl (sw190 hS) (by omega) (by omega) ?_
            rw [ex]
            refine r_sipush rfl ?_
            refine r_sipush rfl ?_
            refine r_cV4 rfl (so184 hS) (Nat.le_of_ble_eq_true rfl) rfl rfl (x_in hS (by unfold inI; omega) (by unfold inI; omega) (by unfold inI; omega) (fun p1 p2 => ?_) (fun p0 => ?_))
            · skip
              refine r_if_eq1 rfl ?_
              refine r_iconst rfl ?_
              refine r_goto rfl ?_
              refine r_istore_n rfl (Nat.le_of_ble_eq_true rfl) ?_
              refine r_iinc rfl rfl ?_
              refine r_goto rfl ?_
              rw [if_pos ⟨p1, p2⟩] at hs
              exact ih (by omega) (by omega) (n + 1) 1 (by omega) (by omega) (Or.inl ⟨rfl, by rcases hs with ⟨-, q⟩ | ⟨q, -⟩; exact q; omega⟩)
            · skip
              refine r_if_eq0 rfl ?_
              refine r_iconst rfl ?_
              refine r_istore_n rfl (Nat.le_of_ble_eq_true rfl) ?_
              refine r_iinc rfl rfl ?_
              refine r_goto rfl ?_
              rw [if_neg p0] at hs
              exact ih (by omega) (by omega) (n + 1) 0 (by omega) (by omega) (Or.inr ⟨rfl, by rcases hs with ⟨-, -, -, q⟩ | ⟨q, -⟩; intro q2; rw [← q] at q2; exact absurd q2.2.2 (by decide); omega⟩)
        · skip
          exact absurd h22 (by decide)
  refine wp_in (C := c_M_gather) (ls := [some (pR 184), some (pI kk), none, none, none]) rfl rfl rfl rfl rfl ?_
  refine r_iconst rfl ?_
  refine r_istore_n rfl (Nat.le_of_ble_eq_true rfl) ?_
  refine r_aload_n rfl rfl ?_
  refine r_getZ rfl (so184 hS) ?_
  rw [hb]
  refine r_if_ne rfl (by unfold inI; omega) (fun h4 => ?_) (fun h4 => ?_)
  · skip
    refine r_iconst rfl ?_
    refine r_istore_n rfl (Nat.le_of_ble_eq_true rfl) ?_
    refine r_iconst rfl ?_
    refine r_istore rfl (Nat.le_of_ble_eq_true rfl) ?_
    exact lp1 0 (by decide) (Int.le_refl _) 0 0 (Int.le_refl _) (Int.le_refl _) (Or.inr ⟨rfl, fun q => by rw [q.1] at h4; exact h4 rfl⟩)
  · skip
    refine r_aload_n rfl rfl ?_
    refine r_getI rfl (so184 hS) ?_
    rw [← hFd]
    refine r_bipush rfl ?_
    refine r_icmp_ge rfl (by unfold inI; omega) (by unfold inI; omega) (fun h8 => ?_) (fun h8 => ?_)
    · skip
      refine r_iconst rfl ?_
      refine r_istore_n rfl (Nat.le_of_ble_eq_true rfl) ?_
      refine r_iconst rfl ?_
      refine r_istore rfl (Nat.le_of_ble_eq_true rfl) ?_
      exact lp1 0 (by decide) (Int.le_refl _) 0 0 (Int.le_refl _) (Int.le_refl _) (Or.inr ⟨rfl, by omega⟩)
    · skip
      refine r_iconst rfl ?_
      refine r_goto rfl ?_
      refine r_istore_n rfl (Nat.le_of_ble_eq_true rfl) ?_
      refine r_iconst rfl ?_
      refine r_istore rfl (Nat.le_of_ble_eq_true rfl) ?_
      exact lp1 0 (by decide) (Int.le_refl _) 0 1 (Int.le_refl _) (Int.le_refl _) (Or.inl ⟨rfl, by cases b; rfl; exact absurd h4 (by decide), by omega, rfl⟩)
