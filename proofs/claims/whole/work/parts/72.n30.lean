/-! THE REFERENCE: an edge -/
def edV (I J : Int → Int) (g : EE) (u : Int) : Int := if u = 0 then dirX I J g.1 g.2.1 else if u = 1 then dirY I J g.1 g.2.1 else if u = 2 then gc (I g.2.1 - I g.1) (J g.2.1 - J g.1) else if u = 3 then knd g.2.2.1 g.2.2.2 else if u = 4 then I g.1 else if u = 5 then J g.1 else if u = 6 then I g.2.1 else J g.2.1
def sEdg (a : FA) (f e u : Int) : Int := if (0 ≤ f ∧ f < a.1) ∧ 0 ≤ e ∧ (0 ≤ u ∧ u ≤ 7) then (match (edA a f)[e.toNat]? with
  | none => -100000
  | some g => edV (gI a f) (gJ a f) g u) else -100000
set_option maxHeartbeats 2000000 in
theorem y_edge {X : PX} {d : Nat} {S : SS} {zI zL : ZM} {Q : PQ} (hS : Sk S) {a : FA} (hA : MF zI a) (hk : FOK a) (hcp : CPa a) {f e u : Int} (hf : inI f) (he : inI e) (hu : inI u) (hQ : ∀ z z2, frE z zI → frEL z2 zL → Q (some (pI (sEdg a f e u))) S z z2) : wpM X (d + 5) fM_edge [pR 184, pI f, pI e, pI u] S zI zL Q := by
  have hX := MF_x hA hk
  have hF0 := hA.1
  obtain ⟨kb, hkf⟩ := hk
  have hget : ∀ f, 0 ≤ f → f < zI 184 0 → (FM zI f (gN a f) (gI a f) (gJ a f) (gV a f) ∧ zI 185 f = gK a f) ∧ FR (gN a f) (gI a f) (gJ a f) (gV a f) ∧ FS (gN a f) (gI a f) (gJ a f) ∧ (0 ≤ gK a f ∧ gK a f ≤ 3) ∧ (gK a f = 0 → gN a f ≤ 12) := fun f f0 f1 => ⟨hA.2 f f0 (by omega), hkf f f0 (by omega)⟩
  unfold sEdg at hQ
  refine wp_in (C := c_M_edge) (ls := [some (pR 184), some (pI f), some (pI e), some (pI u)]) rfl rfl rfl rfl rfl ?_
  refine r_aload_n rfl rfl ?_
  refine r_iload_n rfl rfl ?_
  refine r_cV2 rfl (so184 hS) (Nat.le_of_ble_eq_true rfl) rfl rfl (x_is hS hf hX (fun p q => ?_) (fun p0 => ?_))
  · skip
    refine r_if_eq1 rfl ?_
    refine r_iload_n rfl rfl ?_
    refine r_if_lt rfl he (fun h5 => ?_) (fun h5 => ?_)
    · skip
      refine r_ldc_w rfl ?_
      refine r_iret rfl ?_
      rw [if_neg (by omega)] at hQ; exact hQ zI zL (frE_r _) (frEL_r _)
    · skip
      refine r_aload_n rfl rfl ?_
      refine r_iload_n rfl rfl ?_
      refine r_iconst rfl ?_
      refine r_bipush rfl ?_
      refine r_cV4 rfl (so184 hS) (Nat.le_of_ble_eq_true rfl) rfl rfl (x_in hS hu (by unfold inI; omega) (by unfold inI; omega) (fun p2 q2 => ?_) (fun p0 => ?_))
      · skip
        refine r_if_ne1 rfl ?_
        obtain ⟨⟨hT, -⟩, hR, hS2, -⟩ := hget f p q
        have ef : 0 ≤ f ∧ f < a.1 := ⟨p, by omega⟩
        have hc7 : (edL (gN a f) (gI a f) (gJ a f) (gV a f)).length ≤ 700 := hcp f ef.1 ef.2
        have hok := edL_ok (I := gI a f) (J := gJ a f) (V := gV a f) hR.1
        rw [if_pos ⟨ef, h5, ⟨p2, q2⟩⟩] at hQ
        refine r_aload_n rfl rfl ?_
        refine r_iload_n rfl rfl ?_
        refine r_cV2 rfl (so184 hS) (Nat.le_of_ble_eq_true rfl) rfl rfl (x_findEdges hS (by omega) hT hR hS2 (by omega) (fun z3 z4 f3 f4 hE => ?_))
        refine r_iload_n rfl rfl ?_
        refine r_aload_n rfl rfl ?_
        refine r_getI rfl (so184 hS) ?_
        rw [hE.1]
        refine r_icmp_lt rfl he (by unfold inI; omega) (fun h20 => ?_) (fun h20 => ?_)
        · skip
          refine r_iload_n rfl rfl ?_
          have hel : e.toNat < (edA a f).length := by unfold edA; omega
          obtain ⟨g, hge⟩ : ∃ g, (edA a f)[e.toNat]? = some g := ⟨_, List.getElem?_eq_getElem hel⟩
          rw [hge] at hQ
          obtain ⟨⟨g1, g2, g3, g4, g5, g6, g7⟩, -, -⟩ := hE.2 e.toNat g hge
          rw [show ((e.toNat : Nat) : Int) = e by omega] at g1 g2 g3 g4 g5 g6 g7
          obtain ⟨o1, o2, o3, -⟩ := hok g (List.mem_of_getElem? hge)
          have hQ : ∀ z z2, frE z zI → frEL z2 zL → Q (some (pI (edV (gI a f) (gJ a f) g u))) S z z2 := hQ
          have hT3 : FM z3 f (gN a f) (gI a f) (gJ a f) (gV a f) := FM_fr hT (fun c c0 c1 => f3.1 c (by omega) (by omega))
          have tA := hT3.2 g.1 o1 (by omega)
          have tB := hT3.2 g.2.1 (by omega) o3
          have n40 := hR.2.1
          have le780 : e < 780 := by omega
          by_cases u0 : u = 0
          · subst u0
            refine r_tsw rfl hu rfl ?_
            refine r_aload_n rfl rfl ?_
            refine r_getR rfl (so184 hS) (sr184_21 hS) ?_
            refine r_iload_n rfl rfl ?_
            refine r_iald rfl (sw198 hS) (by omega) (by omega) ?_
            rw [g3]
            refine r_iret rfl ?_
            exact hQ z3 z4 f3 f4
          by_cases u1 : u = 1
          · subst u1
            refine r_tsw rfl hu rfl ?_
            refine r_aload_n rfl rfl ?_
            refine r_getR rfl (so184 hS) (sr184_22 hS) ?_
            refine r_iload_n rfl rfl ?_
            refine r_iald rfl (sw199 hS) (by omega) (by omega) ?_
            rw [g4]
            refine r_iret rfl ?_
            exact hQ z3 z4 f3 f4
          by_cases u2 : u = 2
          · subst u2
            refine r_tsw rfl hu rfl ?_
            refine r_aload_n rfl rfl ?_
            refine r_getR rfl (so184 hS) (sr184_23 hS) ?_
            refine r_iload_n rfl rfl ?_
            refine r_iald rfl (sw200 hS) (by omega) (by omega) ?_
            rw [g5]
            refine r_iret rfl ?_
            exact hQ z3 z4 f3 f4
          by_cases u3 : u = 3
          · subst u3
            refine r_tsw rfl hu rfl ?_
            refine r_aload_n rfl rfl ?_
            refine r_iload_n rfl rfl ?_
            refine r_cV2 rfl (so184 hS) (Nat.le_of_ble_eq_true rfl) rfl rfl (x_kindOf hS (by omega) g6 g7 ?_)
            refine r_iret rfl ?_
            exact hQ z3 z4 f3 f4
          by_cases u4 : u = 4
          · subst u4
            refine r_tsw rfl hu rfl ?_
            refine r_aload_n rfl rfl ?_
            refine r_getR rfl (so184 hS) (sr184_3 hS) ?_
            refine r_aload_n rfl rfl ?_
            refine r_getR rfl (so184 hS) (sr184_19 hS) ?_
            refine r_iload_n rfl rfl ?_
            refine r_iald rfl (sw196 hS) (by omega) (by omega) ?_
            rw [g1]
            refine r_iald rfl (sw187 hS) (by omega) (by omega) ?_
            rw [tA.1]
            refine r_iret rfl ?_
            exact hQ z3 z4 f3 f4
          by_cases u5 : u = 5
          · subst u5
            refine r_tsw rfl hu rfl ?_
            refine r_aload_n rfl rfl ?_
            refine r_getR rfl (so184 hS) (sr184_4 hS) ?_
            refine r_aload_n rfl rfl ?_
            refine r_getR rfl (so184 hS) (sr184_19 hS) ?_
            refine r_iload_n rfl rfl ?_
            refine r_iald rfl (sw196 hS) (by omega) (by omega) ?_
            rw [g1]
            refine r_iald rfl (sw188 hS) (by omega) (by omega) ?_
            rw [tA.2.1]
            refine r_iret rfl ?_
            exact hQ z3 z4 f3 f4
          by_cases u6 : u = 6
          · subst u6
            refine r_tsw rfl hu rfl ?_
            refine r_aload_n rfl rfl ?_
            refine r_getR rfl (so184 hS) (sr184_3 hS) ?_
            refine r_aload_n rfl rfl ?_
            refine r_getR rfl (so184 hS) (sr184_20 hS) ?_
            refine r_iload_n rfl rfl ?_
            refine r_iald rfl (sw197 hS) (by omega) (by omega) ?_
            rw [g2]
            refine r_iald rfl (sw187 hS) (by omega) (by omega) ?_
            rw [tB.1]
            refine r_iret rfl ?_
            exact hQ z3 z4 f3 f4
          have e7 : u = 7 := by omega
          subst e7
          refine r_tsw rfl hu rfl ?_
          refine r_aload_n rfl rfl ?_
          refine r_getR rfl (so184 hS) (sr184_4 hS) ?_
          refine r_aload_n rfl rfl ?_
          refine r_getR rfl (so184 hS) (sr184_20 hS) ?_
          refine r_iload_n rfl rfl ?_
          refine r_iald rfl (sw197 hS) (by omega) (by omega) ?_
          rw [g2]
          refine r_iald rfl (sw188 hS) (by omega) (by omega) ?_
          rw [tB.2.1]
          refine r_iret rfl ?_
          exact hQ z3 z4 f3 f4
        · skip
          refine r_ldc_w rfl ?_
          refine r_iret rfl ?_
          rw [List.getElem?_eq_none (by unfold edA; omega)] at hQ; exact hQ z3 z4 f3 f4
      · skip
        refine r_if_ne0 rfl ?_
        refine r_ldc_w rfl ?_
        refine r_iret rfl ?_
        rw [if_neg (fun k => p0 k.2.2)] at hQ; exact hQ zI zL (frE_r _) (frEL_r _)
  · skip
    refine r_if_eq0 rfl ?_
    refine r_ldc_w rfl ?_
    refine r_iret rfl ?_
    rw [if_neg (fun k => p0 ⟨k.1.1, by omega⟩)] at hQ; exact hQ zI zL (frE_r _) (frEL_r _)
