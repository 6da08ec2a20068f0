/-! THE REFERENCE: meet -/
noncomputable def sMee (a : FA) (f g i u : Int) : Int := if (0 ≤ f ∧ f < a.1) ∧ (0 ≤ g ∧ g < a.1) ∧ 0 ≤ i ∧ (0 ≤ u ∧ u ≤ 4) then (match sMt a f g with | none => NOv | some ms => if i < ms.1 then mtW ms i u else NOv) else NOv
theorem frW_r (z : ZM) : frW z z := ⟨fun _ _ _ => rfl, fun _ _ _ _ _ _ _ _ => rfl⟩
set_option maxHeartbeats 1000000 in
theorem y_meet {X : PX} {d : Nat} {S : SS} {zI zL : ZM} {Q : PQ} (hS : Sk S) {a : FA} (hA : MF zI a) (hk : FOK a) (hcp : CPa a) (h8 : M8a a) {f g i u : Int} (hf : inI f) (hg : inI g) (hi : inI i) (hu : inI u) (hct : ∀ ms, sMt a f g = some ms → ∀ i, 0 ≤ i → i < ms.1 → inI (ms.2.2.2.2.2 i)) (hQ : ∀ z z2, frW z zI → frQL z2 zL → Q (some (pL (sMee a f g i u))) S z z2) : wpM X (d + 8) fM_meet [pR 184, pI f, pI g, pI i, pI u] S zI zL Q := by
  have hX := MF_x hA hk
  have hF0 := hA.1
  obtain ⟨kb, hkf⟩ := hk
  have hget : ∀ f, 0 ≤ f → f < zI 184 0 → (FM zI f (gN a f) (gI a f) (gJ a f) (gV a f) ∧ zI 185 f = gK a f) ∧ FR (gN a f) (gI a f) (gJ a f) (gV a f) ∧ FS (gN a f) (gI a f) (gJ a f) ∧ (0 ≤ gK a f ∧ gK a f ≤ 3) ∧ (gK a f = 0 → gN a f ≤ 12) := fun f f0 f1 => ⟨hA.2 f f0 (by omega), hkf f f0 (by omega)⟩
  have w1 := weA_i a f g
  unfold sMee at hQ
  refine wp_in (C := c_M_meet) (ls := [some (pR 184), some (pI f), some (pI g), some (pI i), some (pI u)]) rfl rfl rfl rfl rfl ?_
  refine r_aload_n rfl rfl ?_
  refine r_iload_n rfl rfl ?_
  refine r_cV2 rfl (so184 hS) (Nat.le_of_ble_eq_true rfl) rfl rfl (x_is hS hf hX (fun p q => ?_) (fun p0 => ?_))
  · skip
    refine r_if_eq1 rfl ?_
    refine r_aload_n rfl rfl ?_
    refine r_iload_n rfl rfl ?_
    refine r_cV2 rfl (so184 hS) (Nat.le_of_ble_eq_true rfl) rfl rfl (x_is hS hg hX (fun p2 q2 => ?_) (fun p0 => ?_))
    · skip
      refine r_if_eq1 rfl ?_
      refine r_iload_n rfl rfl ?_
      refine r_if_lt rfl hi (fun h9 => ?_) (fun h9 => ?_)
      · skip
        refine r_ldc2_w rfl ?_
        refine r_lret rfl ?_
        rw [if_neg (by omega)] at hQ; exact hQ zI zL (frW_r _) (frQL_r _)
      · skip
        refine r_aload_n rfl rfl ?_
        refine r_iload rfl rfl ?_
        refine r_iconst rfl ?_
        refine r_iconst rfl ?_
        refine r_cV4 rfl (so184 hS) (Nat.le_of_ble_eq_true rfl) rfl rfl (x_in hS hu (by unfold inI; omega) (by unfold inI; omega) (fun p3 q3 => ?_) (fun p0 => ?_))
        · skip
          refine r_if_eq1 rfl ?_
          obtain ⟨⟨hT, -⟩, hR, hS2, -⟩ := hget f p q
          obtain ⟨⟨hT2, -⟩, hR2, hS22, -⟩ := hget g p2 q2
          have ef : 0 ≤ f ∧ f < a.1 := ⟨p, by omega⟩
          have eg : 0 ≤ g ∧ g < a.1 := ⟨p2, by omega⟩
          rw [if_pos ⟨ef, eg, h9, p3, q3⟩] at hQ
          refine r_aload_n rfl rfl ?_
          refine r_iload_n rfl rfl ?_
          refine r_iload_n rfl rfl ?_
          refine r_cV3 rfl (so184 hS) (Nat.le_of_ble_eq_true rfl) rfl rfl (x_findMeets hS (by omega) hT hR hS2 (by omega) hT2 hR2 hS22 (hcp f ef.1 ef.2) (hcp g eg.1 eg.2) (h8 f g ef.1 ef.2 eg.1 eg.2) (fun c z3 z4 f3 f4 => ?_) (fun c1 c2 z3 z4 f3 f4 hM hMR => ?_))
          · refine r_if_eq0 rfl ?_
            refine r_ldc2_w rfl ?_
            refine r_lret rfl ?_
            have e0 : sMt a f g = none := by unfold sMt; rw [if_neg (fun q => by have k1 := q.1; have k2 := q.2.1; unfold clA at k1 k2; omega)]
            rw [e0] at hQ
            exact hQ z3 z4 f3 f4
          · refine r_if_eq rfl (by show inI (weA a f g); unfold inI; omega) (fun q => ?_) (fun q => ?_)
            · refine r_ldc2_w rfl ?_
              refine r_lret rfl ?_
              have e0 : sMt a f g = none := by unfold sMt; rw [if_neg (fun k => k.2.2 q)]
              rw [e0] at hQ
              exact hQ z3 z4 f3 f4
            · have e0 : sMt a f g = some (meA a f g) := by unfold sMt; rw [if_pos ⟨c1, c2, q⟩]
              rw [e0] at hQ
              have hQ : ∀ z z2, frW z zI → frQL z2 zL → Q (some (pL (if i < (meA a f g).1 then mtW (meA a f g) i u else NOv))) S z z2 := hQ
              have hm8 := h8 f g ef.1 ef.2 eg.1 eg.2 c1 c2
              have hc4 := hct _ e0
              obtain ⟨e43, hel⟩ := hM
              have e43 : z3 184 43 = (meA a f g).1 := e43
              have hel : ∀ t, 0 ≤ t → t < (meA a f g).1 → (z4 212 (4 * t) = (meA a f g).2.1 t ∧ z4 212 (4 * t + 1) = (meA a f g).2.2.1 t ∧ z4 212 (4 * t + 2) = (meA a f g).2.2.2.1 t ∧ z4 212 (4 * t + 3) = (meA a f g).2.2.2.2.1 t) ∧ z3 213 t = (meA a f g).2.2.2.2.2 t := hel
              have hm0 : 0 ≤ (meA a f g).1 := hMR.1
              refine r_iload_n rfl rfl ?_
              refine r_aload_n rfl rfl ?_
              refine r_getI rfl (so184 hS) ?_
              rw [e43]
              refine r_icmp_lt rfl hi (by unfold inI; omega) (fun h24 => ?_) (fun h24 => ?_)
              · skip
                obtain ⟨⟨d1, d2, d3, d4⟩, d5⟩ := hel i h9 (by omega)
                rw [if_pos (by omega)] at hQ
                unfold mtW at hQ
                refine r_iload rfl rfl ?_
                refine r_iconst rfl ?_
                refine r_icmp_ne rfl hu (by unfold inI; omega) (fun h29 => ?_) (fun h29 => ?_)
                · skip
                  refine r_aload_n rfl rfl ?_
                  refine r_getR rfl (so184 hS) (sr184_44 hS) ?_
                  refine r_iconst rfl ?_
                  refine r_iload_n rfl rfl ?_
                  refine r_imul rfl ?_
                  refine r_iload rfl rfl ?_
                  refine r_iadd rfl ?_
                  refine r_lald rfl (sw212 hS) (by omega) (by omega) ?_
                  refine r_lret rfl ?_
                  rw [if_neg (by omega)] at hQ
                  have hv : z4 212 (4 * i + u) = prt ((meA a f g).2.1 i) ((meA a f g).2.2.1 i) ((meA a f g).2.2.2.1 i) ((meA a f g).2.2.2.2.1 i) u := by
                    unfold prt
                    rcases (show u = 0 ∨ u = 1 ∨ u = 2 ∨ u = 3 by omega) with e | e | e | e
                    · subst e; rw [if_pos rfl, Int.add_zero]; exact d1
                    · subst e; rw [if_neg (by decide), if_pos rfl]; exact d2
                    · subst e; rw [if_neg (by decide), if_neg (by decide), if_pos rfl]; exact d3
                    · subst e; rw [if_neg (by decide), if_neg (by decide), if_neg (by decide)]; exact d4
                  rw [hv]
                  exact hQ z3 z4 f3 f4
                · skip
                  refine r_aload_n rfl rfl ?_
                  refine r_getR rfl (so184 hS) (sr184_45 hS) ?_
                  refine r_iload_n rfl rfl ?_
                  refine r_iald rfl (sw213 hS) (by omega) (by omega) ?_
                  rw [d5]
                  refine r_i2l rfl (hc4 i h9 (by omega)) ?_
                  refine r_goto rfl ?_
                  refine r_lret rfl ?_
                  rw [if_pos (by omega)] at hQ; exact hQ z3 z4 f3 f4
              · skip
                refine r_ldc2_w rfl ?_
                refine r_lret rfl ?_
                rw [if_neg (by omega)] at hQ; exact hQ z3 z4 f3 f4
        · skip
          refine r_if_eq0 rfl ?_
          refine r_ldc2_w rfl ?_
          refine r_lret rfl ?_
          rw [if_neg (fun k => p0 k.2.2.2)] at hQ; exact hQ zI zL (frW_r _) (frQL_r _)
    · skip
      refine r_if_eq0 rfl ?_
      refine r_ldc2_w rfl ?_
      refine r_lret rfl ?_
      rw [if_neg (fun k => p0 ⟨k.2.1.1, by omega⟩)] at hQ; exact hQ zI zL (frW_r _) (frQL_r _)
  · skip
    refine r_if_eq0 rfl ?_
    refine r_ldc2_w rfl ?_
    refine r_lret rfl ?_
    rw [if_neg (fun k => p0 ⟨k.1.1, by omega⟩)] at hQ; exact hQ zI zL (frW_r _) (frQL_r _)
