/-! THE REFERENCE: a root -/
def sRoo (a : FA) (f i u : Int) : Int := if (0 ≤ f ∧ f < a.1) ∧ 0 ≤ i ∧ (0 ≤ u ∧ u ≤ 2) ∧ oneL (gN a f) (gJ a f) = 1 ∧ i < (edA a f).length then (match (edA a f)[((edA a f).length : Int).toNat - 1 - i.toNat]? with
  | none => NOv
  | some g => if u = 2 then gc (gI a f g.2.1 - gI a f g.1) (gJ a f g.2.1 - gJ a f g.1) else if u = 0 then rdA (gV a f g.1 - gV a f g.2.1) (gI a f g.2.1 - gI a f g.1) else rdB (gV a f g.1 - gV a f g.2.1) (gI a f g.2.1 - gI a f g.1)) else NOv
set_option maxHeartbeats 2000000 in
theorem y_root {X : PX} {d : Nat} {S : SS} {zI zL : ZM} {Q : PQ} (hS : Sk S) {a : FA} (hA : MF zI a) (hk : FOK a) (hcp : CPa a) {f i u : Int} (hf : inI f) (hi : inI i) (hu : inI u) (hQ : ∀ z z2, frE z zI → frEL z2 zL → Q (some (pL (sRoo a f i u))) S z z2) : wpM X (d + 5) fM_root [pR 184, pI f, pI i, pI u] S zI zL Q := by
  have hX := MF_x hA hk
  have hF0 := hA.1
  obtain ⟨kb, hkf⟩ := hk
  have hget : ∀ f, 0 ≤ f → f < zI 184 0 → (FM zI f (gN a f) (gI a f) (gJ a f) (gV a f) ∧ zI 185 f = gK a f) ∧ FR (gN a f) (gI a f) (gJ a f) (gV a f) ∧ FS (gN a f) (gI a f) (gJ a f) ∧ (0 ≤ gK a f ∧ gK a f ≤ 3) ∧ (gK a f = 0 → gN a f ≤ 12) := fun f f0 f1 => ⟨hA.2 f f0 (by omega), hkf f f0 (by omega)⟩
  unfold sRoo at hQ
  have go : (0 ≤ f ∧ f < a.1) → 0 ≤ i → (0 ≤ u ∧ u ≤ 2) → oneL (gN a f) (gJ a f) = 1 → (∀ t, 0 ≤ t → t < gN a f → gJ a f t = 0) → ∀ y, Run X (d + 4) c_M_root 37 [some (pR 184), some (pI f), some (pI i), some (pI u), some (pI y), none, none, none, none] [] S zI zL 0 0 Q := by
    intro ef hi0 bu ho hJ y
    obtain ⟨⟨hT, -⟩, hR, hS2, -⟩ := hget f ef.1 (by omega)
    have hc7 : (edL (gN a f) (gI a f) (gJ a f) (gV a f)).length ≤ 700 := hcp f ef.1 ef.2
    have hok := edL_ok (I := gI a f) (J := gJ a f) (V := gV a f) hR.1
    refine r_aload_n rfl rfl ?_
    refine r_iload_n rfl rfl ?_
    refine r_cV2 rfl (so184 hS) (Nat.le_of_ble_eq_true rfl) rfl rfl (x_findEdges hS (by omega) hT hR hS2 (by omega) (fun z3 z4 f3 f4 hE => ?_))
    refine r_iload_n rfl rfl ?_
    refine r_aload_n rfl rfl ?_
    refine r_getI rfl (so184 hS) ?_
    rw [hE.1]
    refine r_icmp_lt rfl hi (by unfold inI; omega) (fun h43 => ?_) (fun h43 => ?_)
    · skip
      refine r_aload_n rfl rfl ?_
      refine r_getI rfl (so184 hS) ?_
      rw [hE.1]
      refine r_iconst rfl ?_
      refine r_isub rfl ?_
      refine r_iload_n rfl rfl ?_
      refine r_isub rfl ?_
      refine r_istore rfl (Nat.le_of_ble_eq_true rfl) ?_
      have hlt : i < ((edA a f).length : Int) := h43
      have hnat : (edA a f).length - 1 - i.toNat < (edA a f).length := by omega
      obtain ⟨g, hge⟩ : ∃ g, (edA a f)[(edA a f).length - 1 - i.toNat]? = some g := ⟨_, List.getElem?_eq_getElem hnat⟩
      rw [if_pos ⟨ef, hi0, bu, ho, hlt⟩, Int.toNat_natCast, hge] at hQ
      obtain ⟨⟨g1, g2, -, -, g5, -, -⟩, -, -⟩ := hE.2 _ g hge
      have eix : (((edA a f).length - 1 - i.toNat : Nat) : Int) = ((edL (gN a f) (gI a f) (gJ a f) (gV a f)).length : Int) - 1 - i := by unfold edA; omega
      rw [eix] at g1 g2 g5
      obtain ⟨o1, o2, o3, -⟩ := hok g (List.mem_of_getElem? hge)
      have hT3 : FM z3 f (gN a f) (gI a f) (gJ a f) (gV a f) := FM_fr hT (fun c c0 c1 => f3.1 c (by omega) (by omega))
      have tA := hT3.2 g.1 o1 (by omega)
      have tB := hT3.2 g.2.1 (by omega) o3
      have n40 := hR.2.1
      obtain ⟨d1, d2, d3⟩ := dif_b hR ⟨o1, show g.1 < gN a f by omega⟩ ⟨show 0 ≤ g.2.1 by omega, o3⟩
      have hlex := hS2 g.1 g.2.1 o1 o2 o3
      have hj1 := hJ g.1 o1 (by omega)
      have hj2 := hJ g.2.1 (by omega) o3
      have hpos : gI a f g.2.1 - gI a f g.1 ≠ 0 := by unfold lexlt at hlex; omega
      have gb := gc_b (a := gI a f g.2.1 - gI a f g.1) (b := gJ a f g.2.1 - gJ a f g.1) (B := 8) d1 d2 (by decide)
      have hQ : ∀ z z2, frE z zI → frEL z2 zL → Q (some (pL (if u = 2 then gc (gI a f g.2.1 - gI a f g.1) (gJ a f g.2.1 - gJ a f g.1) else if u = 0 then rdA (gV a f g.1 - gV a f g.2.1) (gI a f g.2.1 - gI a f g.1) else rdB (gV a f g.1 - gV a f g.2.1) (gI a f g.2.1 - gI a f g.1)))) S z z2 := hQ
      refine r_aload_n rfl rfl ?_
      refine r_getR rfl (so184 hS) (sr184_5 hS) ?_
      refine r_aload_n rfl rfl ?_
      refine r_getR rfl (so184 hS) (sr184_19 hS) ?_
      refine r_iload rfl rfl ?_
      refine r_iald rfl (sw196 hS) (by omega) (by omega) ?_
      rw [g1]
      refine r_iald rfl (sw189 hS) (by omega) (by omega) ?_
      rw [tA.2.2]
      refine r_aload_n rfl rfl ?_
      refine r_getR rfl (so184 hS) (sr184_5 hS) ?_
      refine r_aload_n rfl rfl ?_
      refine r_getR rfl (so184 hS) (sr184_20 hS) ?_
      refine r_iload rfl rfl ?_
      refine r_iald rfl (sw197 hS) (by omega) (by omega) ?_
      rw [g2]
      refine r_iald rfl (sw189 hS) (by omega) (by omega) ?_
      rw [tB.2.2]
      refine r_isub rfl ?_
      refine r_i2l rfl (by unfold inI; omega) ?_
      refine r_lstore rfl (Nat.le_of_ble_eq_true rfl) ?_
      refine r_aload_n rfl rfl ?_
      refine r_getR rfl (so184 hS) (sr184_3 hS) ?_
      refine r_aload_n rfl rfl ?_
      refine r_getR rfl (so184 hS) (sr184_20 hS) ?_
      refine r_iload rfl rfl ?_
      refine r_iald rfl (sw197 hS) (by omega) (by omega) ?_
      rw [g2]
      refine r_iald rfl (sw187 hS) (by omega) (by omega) ?_
      rw [tB.1]
      refine r_aload_n rfl rfl ?_
      refine r_getR rfl (so184 hS) (sr184_3 hS) ?_
      refine r_aload_n rfl rfl ?_
      refine r_getR rfl (so184 hS) (sr184_19 hS) ?_
      refine r_iload rfl rfl ?_
      refine r_iald rfl (sw196 hS) (by omega) (by omega) ?_
      rw [g1]
      refine r_iald rfl (sw187 hS) (by omega) (by omega) ?_
      rw [tA.1]
      refine r_isub rfl ?_
      refine r_i2l rfl (by unfold inI; omega) ?_
      refine r_lstore rfl (Nat.le_of_ble_eq_true rfl) ?_
      refine r_iload_n rfl rfl ?_
      refine r_iconst rfl ?_
      refine r_icmp_ne rfl hu (by unfold inI; omega) (fun h89 => ?_) (fun h89 => ?_)
      · skip
        refine r_aload_n rfl rfl ?_
        refine r_lload rfl rfl ?_
        refine r_lload rfl rfl ?_
        refine r_iload_n rfl rfl ?_
        refine r_cV4 rfl (so184 hS) (Nat.le_of_ble_eq_true rfl) rfl rfl (x_lowest (d := d + 2) hS (by omega) (by omega) hpos hu ?_)
        refine r_lret rfl ?_
        rw [if_neg h89] at hQ; exact hQ z3 z4 f3 f4
      · skip
        refine r_aload_n rfl rfl ?_
        refine r_getR rfl (so184 hS) (sr184_23 hS) ?_
        refine r_iload rfl rfl ?_
        refine r_iald rfl (sw200 hS) (by omega) (by omega) ?_
        rw [g5]
        refine r_i2l rfl (by unfold inI; omega) ?_
        refine r_goto rfl ?_
        refine r_lret rfl ?_
        rw [if_pos h89] at hQ; exact hQ z3 z4 f3 f4
    · skip
      refine r_ldc2_w rfl ?_
      refine r_lret rfl ?_
      rw [if_neg (fun k => by have := k.2.2.2.2; unfold edA at this; omega)] at hQ; exact hQ z3 z4 f3 f4
  have lp : (0 ≤ f ∧ f < a.1) → 0 ≤ i → (0 ≤ u ∧ u ≤ 2) → ∀ k : Int, k ≤ gN a f → 0 ≤ k → ∀ y, y = 40 * f + k → srch (fun t => decide (gJ a f t ≠ 0)) (gN a f - k).toNat k = srch (fun t => decide (gJ a f t ≠ 0)) (gN a f).toNat 0 → (∀ t, 0 ≤ t → t < k → gJ a f t = 0) → Run X (d + 4) c_M_root 18 [some (pR 184), some (pI f), some (pI i), some (pI u), some (pI y), none, none, none, none] [] S zI zL 0 0 Q := by
    intro ef hi0 bu
    obtain ⟨⟨hT, -⟩, hR, hS2, -⟩ := hget f ef.1 (by omega)
    have e4 := hT.1
    have n40 := hR.2.1
    refine loop_up _ (gN a f) (fun k hk ih k0 y hy hs hz => ?_)
    refine r_iload rfl rfl ?_
    refine r_bipush rfl ?_
    refine r_iload_n rfl rfl ?_
    refine r_imul rfl ?_
    refine r_aload_n rfl rfl ?_
    refine r_getR rfl (so184 hS) (sr184_2 hS) ?_
    refine r_iload_n rfl rfl ?_
    refine r_iald rfl (sw186 hS) (by omega) (by omega) ?_
    rw [e4]
    refine r_iadd rfl ?_
    refine r_icmp_ge rfl (by unfold inI; omega) (by unfold inI; omega) (fun h27 => ?_) (fun h27 => ?_)
    · skip
      rw [srch_end (by omega)] at hs
      exact go ef hi0 bu (by unfold oneL; rw [← hs, if_pos rfl]) (fun t t0 t1 => hz t t0 (by omega)) y
    · skip
      have hkn : k < gN a f := by omega
      have g2 := (hT.2 k k0 hkn).2.1
      rw [← hy] at g2
      have rk := hR.2.2 k k0 hkn
      refine r_aload_n rfl rfl ?_
      refine r_getR rfl (so184 hS) (sr184_4 hS) ?_
      refine r_iload rfl rfl ?_
      refine r_iald rfl (sw188 hS) (by omega) (by omega) ?_
      rw [g2]
      refine r_if_eq rfl (by unfold inI; omega) (fun h32 => ?_) (fun h32 => ?_)
      · skip
        refine r_iinc rfl rfl ?_
        refine r_goto rfl ?_
        refine ih hkn (by omega) _ (by omega) (by rw [← srch_miss hkn (by simp only [decide_eq_false_iff_not]; omega)]; exact hs) (fun t t0 t1 => ?_)
        by_cases e : t = k
        · rw [e]; exact h32
        · exact hz t t0 (by omega)
      · skip
        refine r_ldc2_w rfl ?_
        refine r_lret rfl ?_
        rw [srch_hit hkn (by simp only [decide_eq_true_eq]; omega)] at hs
        rw [if_neg (fun q => by have := q.2.2.2.1; unfold oneL at this; rw [← hs, if_neg (by omega)] at this; omega)] at hQ
        exact hQ zI zL (frE_r _) (frEL_r _)
  refine wp_in (C := c_M_root) (ls := [some (pR 184), some (pI f), some (pI i), some (pI u), none, none, none, none, none]) rfl rfl rfl rfl rfl ?_
  refine r_aload_n rfl rfl ?_
  refine r_iload_n rfl rfl ?_
  refine r_cV2 rfl (so184 hS) (Nat.le_of_ble_eq_true rfl) rfl rfl (x_is hS hf hX (fun p q => ?_) (fun p0 => ?_))
  · skip
    refine r_if_eq1 rfl ?_
    refine r_iload_n rfl rfl ?_
    refine r_if_lt rfl hi (fun h5 => ?_) (fun h5 => ?_)
    · skip
      refine r_ldc2_w rfl ?_
      refine r_lret rfl ?_
      rw [if_neg (by omega)] at hQ; exact hQ zI zL (frE_r _) (frEL_r _)
    · skip
      refine r_aload_n rfl rfl ?_
      refine r_iload_n rfl rfl ?_
      refine r_iconst rfl ?_
      refine r_iconst rfl ?_
      refine r_cV4 rfl (so184 hS) (Nat.le_of_ble_eq_true rfl) rfl rfl (x_in hS hu (by unfold inI; omega) (by unfold inI; omega) (fun p2 q2 => ?_) (fun p0 => ?_))
      · skip
        refine r_if_ne1 rfl ?_
        refine r_bipush rfl ?_
        refine r_iload_n rfl rfl ?_
        refine r_imul rfl ?_
        refine r_istore rfl (Nat.le_of_ble_eq_true rfl) ?_
        exact lp ⟨p, by omega⟩ h5 ⟨p2, q2⟩ 0 (hget f p q).2.1.1 (Int.le_refl _) _ (by omega) (by rw [Int.sub_zero]) (fun t t0 t1 => by omega)
      · skip
        refine r_if_ne0 rfl ?_
        refine r_ldc2_w rfl ?_
        refine r_lret rfl ?_
        rw [if_neg (fun k => p0 k.2.2.1)] at hQ; exact hQ zI zL (frE_r _) (frEL_r _)
  · skip
    refine r_if_eq0 rfl ?_
    refine r_ldc2_w rfl ?_
    refine r_lret rfl ?_
    rw [if_neg (fun k => p0 ⟨k.1.1, by omega⟩)] at hQ; exact hQ zI zL (frE_r _) (frEL_r _)
