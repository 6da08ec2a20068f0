/-! THE REFERENCE: an end of an edge -/
def sEnd (a : FA) (f e y u : Int) : Int := if (0 ≤ f ∧ f < a.1) ∧ 0 ≤ e ∧ (0 ≤ y ∧ y ≤ 1) ∧ (0 ≤ u ∧ u ≤ 3) then (match (edA a f)[e.toNat]? with
  | none => NOv
  | some g => let k := if y = 0 then g.2.2.1 else g.2.2.2
    if k = -1 then NOv else prt (cpX (gI a f) (gJ a f) (gV a f) g.1 g.2.1 k) (cpXD (gI a f) (gJ a f) (gV a f) g.1 g.2.1 k) (cpY (gI a f) (gJ a f) (gV a f) g.1 g.2.1 k) (cpYD (gI a f) (gJ a f) (gV a f) g.1 g.2.1 k) u) else NOv
theorem pt_at {z : ZM} {c : Nat} {k x xd y yd u : Int} (h : ptH z c k x xd y yd) (hu : 0 ≤ u ∧ u ≤ 3) : z c (k + u) = prt x xd y yd u := by
  obtain ⟨d1, d2, d3, d4⟩ := h
  unfold prt
  rcases (show u = 0 ∨ u = 1 ∨ u = 2 ∨ u = 3 by omega) with e | e | e | e
  · subst e; rw [if_pos rfl, Int.add_zero]; exact d1
  · subst e; rw [if_neg (by decide), if_pos rfl]; exact d2
  · subst e; rw [if_neg (by decide), if_neg (by decide), if_pos rfl]; exact d3
  · subst e; rw [if_neg (by decide), if_neg (by decide), if_neg (by decide)]; exact d4
set_option maxHeartbeats 1000000 in
theorem y_end {X : PX} {d : Nat} {S : SS} {zI zL : ZM} {Q : PQ} (hS : Sk S) {a : FA} (hA : MF zI a) (hk : FOK a) (hcp : CPa a) {f e y u : Int} (hf : inI f) (he : inI e) (hy : inI y) (hu : inI u) (hQ : ∀ z z2, frE z zI → frEL z2 zL → Q (some (pL (sEnd a f e y u))) S z z2) : wpM X (d + 5) fM_end [pR 184, pI f, pI e, pI y, pI u] S zI zL Q := by
  have hX := MF_x hA hk
  have hF0 := hA.1
  obtain ⟨kb, hkf⟩ := hk
  have hget : ∀ f, 0 ≤ f → f < zI 184 0 → (FM zI f (gN a f) (gI a f) (gJ a f) (gV a f) ∧ zI 185 f = gK a f) ∧ FR (gN a f) (gI a f) (gJ a f) (gV a f) ∧ FS (gN a f) (gI a f) (gJ a f) ∧ (0 ≤ gK a f ∧ gK a f ≤ 3) ∧ (gK a f = 0 → gN a f ≤ 12) := fun f f0 f1 => ⟨hA.2 f f0 (by omega), hkf f f0 (by omega)⟩
  unfold sEnd at hQ
  refine wp_in (C := c_M_end) (ls := [some (pR 184), some (pI f), some (pI e), some (pI y), some (pI u)]) rfl rfl rfl rfl rfl ?_
  refine r_aload_n rfl rfl ?_
  refine r_iload_n rfl rfl ?_
  refine r_cV2 rfl (so184 hS) (Nat.le_of_ble_eq_true rfl) rfl rfl (x_is hS hf hX (fun p q => ?_) (fun p0 => ?_))
  · skip
    refine r_if_eq1 rfl ?_
    refine r_iload_n rfl rfl ?_
    refine r_if_lt rfl he (fun h5 => ?_) (fun h5 => ?_)
    · skip
      refine r_ldc2_w rfl ?_
      refine r_lret rfl ?_
      rw [if_neg (by omega)] at hQ; exact hQ zI zL (frE_r _) (frEL_r _)
    · skip
      refine r_aload_n rfl rfl ?_
      refine r_iload_n rfl rfl ?_
      refine r_iconst rfl ?_
      refine r_iconst rfl ?_
      refine r_cV4 rfl (so184 hS) (Nat.le_of_ble_eq_true rfl) rfl rfl (x_in hS hy (by unfold inI; omega) (by unfold inI; omega) (fun p2 q2 => ?_) (fun p0 => ?_))
      · skip
        refine r_if_eq1 rfl ?_
        refine r_aload_n rfl rfl ?_
        refine r_iload rfl rfl ?_
        refine r_iconst rfl ?_
        refine r_iconst rfl ?_
        refine r_cV4 rfl (so184 hS) (Nat.le_of_ble_eq_true rfl) rfl rfl (x_in hS hu (by unfold inI; omega) (by unfold inI; omega) (fun p3 q3 => ?_) (fun p0 => ?_))
        · skip
          refine r_if_ne1 rfl ?_
          obtain ⟨⟨hT, -⟩, hR, hS2, -⟩ := hget f p q
          have ef : 0 ≤ f ∧ f < a.1 := ⟨p, by omega⟩
          have hc7 : (edL (gN a f) (gI a f) (gJ a f) (gV a f)).length ≤ 700 := hcp f ef.1 ef.2
          rw [if_pos ⟨ef, h5, ⟨p2, q2⟩, p3, q3⟩] at hQ
          refine r_aload_n rfl rfl ?_
          refine r_iload_n rfl rfl ?_
          refine r_cV2 rfl (so184 hS) (Nat.le_of_ble_eq_true rfl) rfl rfl (x_findEdges hS (by omega) hT hR hS2 (by omega) (fun z3 z4 f3 f4 hE => ?_))
          refine r_iload_n rfl rfl ?_
          refine r_aload_n rfl rfl ?_
          refine r_getI rfl (so184 hS) ?_
          rw [hE.1]
          refine r_icmp_ge rfl he (by unfold inI; omega) (fun h26 => ?_) (fun h26 => ?_)
          · skip
            refine r_ldc2_w rfl ?_
            refine r_lret rfl ?_
            rw [List.getElem?_eq_none (by unfold edA; omega)] at hQ; exact hQ z3 z4 f3 f4
          · skip
            have hel : e.toNat < (edA a f).length := by unfold edA; omega
            obtain ⟨g, hge⟩ : ∃ g, (edA a f)[e.toNat]? = some g := ⟨_, List.getElem?_eq_getElem hel⟩
            rw [hge] at hQ
            obtain ⟨⟨-, -, -, -, -, g1, g2⟩, b1', b2'⟩ := hE.2 e.toNat g hge
            rw [show ((e.toNat : Nat) : Int) = e by omega] at g1 g2 b1' b2'
            have i1 := n1_i g.2.2.1
            have i2 := n1_i g.2.2.2
            have n1z : ∀ l, n1 l = 0 ↔ l = -1 := fun l => by unfold n1; split <;> simp_all
            have hQ : ∀ z z2, frE z zI → frEL z2 zL → Q (some (pL (if (if y = 0 then g.2.2.1 else g.2.2.2) = -1 then NOv else prt (cpX (gI a f) (gJ a f) (gV a f) g.1 g.2.1 (if y = 0 then g.2.2.1 else g.2.2.2)) (cpXD (gI a f) (gJ a f) (gV a f) g.1 g.2.1 (if y = 0 then g.2.2.1 else g.2.2.2)) (cpY (gI a f) (gJ a f) (gV a f) g.1 g.2.1 (if y = 0 then g.2.2.1 else g.2.2.2)) (cpYD (gI a f) (gJ a f) (gV a f) g.1 g.2.1 (if y = 0 then g.2.2.1 else g.2.2.2)) u))) S z z2 := hQ
            refine r_iload_n rfl rfl ?_
            refine r_if_ne rfl hy (fun h28 => ?_) (fun h28 => ?_)
            · skip
              refine r_aload_n rfl rfl ?_
              refine r_getR rfl (so184 hS) (sr184_25 hS) ?_
              refine r_iload_n rfl rfl ?_
              refine r_bald rfl (sw202 hS) (by omega) (by omega) ?_
              rw [g2]
              refine r_if_ne rfl (by unfold inI; omega) (fun h39 => ?_) (fun h39 => ?_)
              · skip
                refine r_aload_n rfl rfl ?_
                refine r_getR rfl (so184 hS) (sr184_26 hS) ?_
                refine r_bipush rfl ?_
                refine r_iload_n rfl rfl ?_
                refine r_imul rfl ?_
                refine r_iconst rfl ?_
                refine r_iload_n rfl rfl ?_
                refine r_imul rfl ?_
                refine r_iadd rfl ?_
                refine r_iload rfl rfl ?_
                refine r_iadd rfl ?_
                refine r_lald rfl (sw203 hS) (by omega) (by omega) ?_
                refine r_lret rfl ?_
                have hl : g.2.2.2 ≠ -1 := fun k => h39 ((n1z _).mpr k)
                rw [if_neg h28, if_neg hl] at hQ
                rw [show 8 * e + 4 * y + u = 8 * e + 4 + u by omega, pt_at (b2' hl) ⟨p3, q3⟩]
                exact hQ z3 z4 f3 f4
              · skip
                refine r_ldc2_w rfl ?_
                refine r_lret rfl ?_
                rw [if_neg h28, if_pos ((n1z _).mp h39)] at hQ; exact hQ z3 z4 f3 f4
            · skip
              refine r_aload_n rfl rfl ?_
              refine r_getR rfl (so184 hS) (sr184_24 hS) ?_
              refine r_iload_n rfl rfl ?_
              refine r_bald rfl (sw201 hS) (by omega) (by omega) ?_
              rw [g1]
              refine r_if_eq rfl (by unfold inI; omega) (fun h33 => ?_) (fun h33 => ?_)
              · skip
                refine r_ldc2_w rfl ?_
                refine r_lret rfl ?_
                rw [if_pos h28, if_pos ((n1z _).mp h33)] at hQ; exact hQ z3 z4 f3 f4
              · skip
                refine r_goto rfl ?_
                refine r_aload_n rfl rfl ?_
                refine r_getR rfl (so184 hS) (sr184_26 hS) ?_
                refine r_bipush rfl ?_
                refine r_iload_n rfl rfl ?_
                refine r_imul rfl ?_
                refine r_iconst rfl ?_
                refine r_iload_n rfl rfl ?_
                refine r_imul rfl ?_
                refine r_iadd rfl ?_
                refine r_iload rfl rfl ?_
                refine r_iadd rfl ?_
                refine r_lald rfl (sw203 hS) (by omega) (by omega) ?_
                refine r_lret rfl ?_
                have hl : g.2.2.1 ≠ -1 := fun k => h33 ((n1z _).mpr k)
                rw [if_pos h28, if_neg hl] at hQ
                rw [show 8 * e + 4 * y + u = 8 * e + u by omega, pt_at (b1' hl) ⟨p3, q3⟩]
                exact hQ z3 z4 f3 f4
        · skip
          refine r_if_ne0 rfl ?_
          refine r_ldc2_w rfl ?_
          refine r_lret rfl ?_
          rw [if_neg (fun k => p0 k.2.2.2)] at hQ; exact hQ zI zL (frE_r _) (frEL_r _)
      · skip
        refine r_if_eq0 rfl ?_
        refine r_ldc2_w rfl ?_
        refine r_lret rfl ?_
        rw [if_neg (fun k => p0 k.2.2.1)] at hQ; exact hQ zI zL (frE_r _) (frEL_r _)
  · skip
    refine r_if_eq0 rfl ?_
    refine r_ldc2_w rfl ?_
    refine r_lret rfl ?_
    rw [if_neg (fun k => p0 ⟨k.1.1, by omega⟩)] at hQ; exact hQ zI zL (frE_r _) (frEL_r _)
