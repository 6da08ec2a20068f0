/-! THE REFERENCE: THE MEETS, found -/
set_option maxHeartbeats 4000000 in
theorem v_meet1 {X : PX} {d : Nat} {S : SS} {zI zL : ZM} {Q : PQ} (hS : Sk S) {f n : Int} {I J V : Int → Int} (hf : 0 ≤ f ∧ f ≤ 10) (hT : FM zI f n I J V) (hR : FR n I J V) (hSa : FS n I J) {f2 n2 : Int} {I2 J2 V2 : Int → Int} (hf2 : 0 ≤ f2 ∧ f2 ≤ 10) (hT2 : FM zI f2 n2 I2 J2 V2) (hR2 : FR n2 I2 J2 V2) (hSb : FS n2 I2 J2) {La Lb : List EE} (hK : KH zI f I J La) (hG : GH zI f2 I2 J2 Lb) {i j : Nat} {e o : EE} (hi : La[i]? = some e) (hj : Lb[j]? = some o) (hil : La.length ≤ 700) (hjl : Lb.length ≤ 700) (he : edOK n I J V e) (ho : edOK n2 I2 J2 V2 o) {x : Int} (hx : x = 0 ∨ x = 1) {y6 : Option PV} {ms : MTS} (hM : MM zI zL ms) (hMR : MMR ms) (hcap : (mmO n I J V n2 I2 J2 V2 e ms o).1 ≤ 800)
    (hQ : ∀ z z2 y6, frM z zI → frQL z2 zL → MM z z2 (mmO n I J V n2 I2 J2 V2 e ms o) → MMR (mmO n I J V n2 I2 J2 V2 e ms o) → Run X (d + 5) c_M_findMeets 124 [some (pR 184), some (pI f), some (pI f2), some (pI (wqO I J V I2 J2 V2 e x o)), some (pI (i : Int)), some (pI (j : Int)), y6] [] S z z2 0 0 Q) : Run X (d + 5) c_M_findMeets 35 [some (pR 184), some (pI f), some (pI f2), some (pI x), some (pI (i : Int)), some (pI (j : Int)), y6] [] S zI zL 0 0 Q := by
  obtain ⟨q1, q2, q3, q4, q5, q6⟩ := hK.2 i e hi
  obtain ⟨g1, g2, g3, g4, g5, g6, g7⟩ := hG.2 j o hj
  have il := (List.getElem?_eq_some_iff.mp hi).1
  have jl := (List.getElem?_eq_some_iff.mp hj).1
  have hpb := m_PB hR hR2 he ho
  obtain ⟨e1, e2, e3, -⟩ := he
  obtain ⟨o1, o2, o3, -⟩ := ho
  have ae : 0 ≤ e.1 ∧ e.1 < n := ⟨e1, Int.lt_trans e2 e3⟩
  have be : 0 ≤ e.2.1 ∧ e.2.1 < n := ⟨Int.le_of_lt (Int.lt_of_le_of_lt e1 e2), e3⟩
  have ao : 0 ≤ o.1 ∧ o.1 < n2 := ⟨o1, Int.lt_trans o2 o3⟩
  have bo : 0 ≤ o.2.1 ∧ o.2.1 < n2 := ⟨Int.le_of_lt (Int.lt_of_le_of_lt o1 o2), o3⟩
  obtain ⟨a1, a2, -⟩ := dif_b hR ae be
  obtain ⟨b1', b2', -⟩ := dif_b hR2 ao bo
  have habE : I e.2.1 ≠ I e.1 ∨ J e.2.1 ≠ J e.1 := by have := hSa e.1 e.2.1 e1 e2 e3; unfold lexlt at this; omega
  have habO : I2 o.2.1 ≠ I2 o.1 ∨ J2 o.2.1 ≠ J2 o.1 := by have := hSb o.1 o.2.1 o1 o2 o3; unfold lexlt at this; omega
  obtain ⟨ge1, ge2, ge3⟩ := dir_eq (I := I) (J := J) habE
  obtain ⟨go1, go2, go3⟩ := dir_eq (I := I2) (J := J2) habO
  obtain ⟨de1, de2⟩ := dir_b (I := I) (J := J) habE a1 a2
  obtain ⟨do1, do2⟩ := dir_b (I := I2) (J := J2) habO b1' b2'
  have mz1 := mb de1.1 de1.2 do2.1 do2.2
  have mz2 := mb de2.1 de2.2 do1.1 do1.2
  have hsz : xD I J e I2 J2 o = gc (I e.2.1 - I e.1) (J e.2.1 - J e.1) * gc (I2 o.2.1 - I2 o.1) (J2 o.2.1 - J2 o.1) * (dirX I J e.1 e.2.1 * dirY I2 J2 o.1 o.2.1 - dirY I J e.1 e.2.1 * dirX I2 J2 o.1 o.2.1) := sz_eq ge3 ge2 go3 go2
  have szz := sz_ab (show 0 < gc (I e.2.1 - I e.1) (J e.2.1 - J e.1) by omega) (show 0 < gc (I2 o.2.1 - I2 o.1) (J2 o.2.1 - J2 o.1) by omega) hsz
  have ii : 0 ≤ (i : Int) ∧ (i : Int) < 780 := by omega
  have jj : 0 ≤ (j : Int) ∧ (j : Int) < 780 := by omega
  obtain ⟨z0, hz0⟩ : ∃ z0, z0 = dirX I J e.1 e.2.1 * dirY I2 J2 o.1 o.2.1 - dirY I J e.1 e.2.1 * dirX I2 J2 o.1 o.2.1 := ⟨_, rfl⟩
  rw [← hz0] at szz
  have zb : -128 ≤ z0 ∧ z0 ≤ 128 := by rw [hz0]; omega
  have wsb : ∀ Q' : PQ, xD I J e I2 J2 o ≠ 0 → Q' none S zI (stM zL (mqX I J V e I2 J2 V2 o) (mqXD I J V e I2 J2 V2 o) (mqY I J V e I2 J2 V2 o) (mqYD I J V e I2 J2 V2 o)) → wpM X (d + 5) fM_standAtBoth [pR 184, pI (i : Int), pI (j : Int)] S zI zL Q' := fun Q' hD h => x_standBoth (d := d + 1) hS hf hT hR hf2 hT2 hR2 ii jj ae be ao bo q1 q2 g1 g2 rfl rfl rfl rfl hD h
  have wol := fun (Q' : PQ) => x_oneLine (X := X) (d := d + 4) (Q := Q') (zL := zL) hS hf hT hR hf2 hT2 hR2 ii jj ae be ao bo q1 q2 g1 g2 rfl rfl rfl rfl
  have kb1 := knd_b e.2.2.1 e.2.2.2
  have kb2 := knd_b o.2.2.1 o.2.2.2
  have nohit : ¬ mHit n I J V n2 I2 J2 V2 e o → ∀ z2 y6, frQL z2 zL → (∀ k, k ≠ 203 → k ≠ 184 → z2 k = zL k) → Run X (d + 5) c_M_findMeets 124 [some (pR 184), some (pI f), some (pI f2), some (pI (wqO I J V I2 J2 V2 e x o)), some (pI (i : Int)), some (pI (j : Int)), y6] [] S zI z2 0 0 Q := fun h z2 y6 hz hz2 => hQ zI z2 y6 (frM_r zI) hz (by rw [mmO_0 h]; exact MM_fr hM rfl rfl (hz2 212 (by decide) (by decide))) (by rw [mmO_0 h]; exact hMR)
  have npos : 0 < n := by omega
  have n2pos : 0 < n2 := by omega
  clear mz1 mz2 a1 a2 b1' b2' habE habO ge1 ge2 ge3 go1 go2 go3 hsz de1 de2 do1 do2
  have flat : xD I J e I2 J2 o = 0 → ∀ v, v = wqO I J V I2 J2 V2 e x o → Run X (d + 5) c_M_findMeets 77 [some (pR 184), some (pI f), some (pI f2), some (pI x), some (pI (i : Int)), some (pI (j : Int)), some (pI z0)] [pI v] S zI zL 0 0 Q := by
    intro hD v hv
    rw [← hv] at nohit
    refine r_istore_n rfl (Nat.le_of_ble_eq_true rfl) ?_
    refine r_goto rfl ?_
    exact nohit (fun q => q.1 hD) zL _ (frQL_r zL) (fun _ _ _ => rfl)
  have flat0 : xD I J e I2 J2 o = 0 → Run X (d + 5) c_M_findMeets 57 [some (pR 184), some (pI f), some (pI f2), some (pI x), some (pI (i : Int)), some (pI (j : Int)), some (pI z0)] [] S zI zL 0 0 Q := by
    intro hD
    refine r_iload_n rfl rfl ?_
    refine r_if_eq rfl (by unfold inI; omega) (fun h58 => ?_) (fun h58 => ?_)
    · skip
      refine r_iconst rfl ?_
      exact flat hD 0 (by rw [h58, wqO_z])
    · skip
      refine r_aload_n rfl rfl ?_
      refine r_getR rfl (so184 hS) (sr184_42 hS) ?_
      refine r_iload rfl rfl ?_
      refine r_bald rfl (sw211 hS) (by omega) (by omega) ?_
      rw [q6]
      refine r_if_eq rfl (by unfold inI; split <;> omega) (fun h63 => ?_) (fun h63 => ?_)
      · skip
        refine r_iconst rfl ?_
        refine r_goto rfl ?_
        refine flat hD 1 ?_
        rw [wqO_0 (fun q => by rw [if_pos q.2.1] at h63; exact absurd h63 (by decide))]; omega
      · skip
        refine r_aload_n rfl rfl ?_
        refine r_iload rfl rfl ?_
        refine r_cV2 rfl (so184 hS) (Nat.le_of_ble_eq_true rfl) rfl rfl (x_kindOf hS jj g6 g7 ?_)
        refine r_iconst rfl ?_
        refine r_icmp_ne rfl (by unfold inI; omega) (by unfold inI; omega) (fun h68 => ?_) (fun h68 => ?_)
        · skip
          refine r_iconst rfl ?_
          refine r_goto rfl ?_
          refine flat hD 1 ?_
          rw [wqO_0 (fun q => h68 q.2.2.1)]; omega
        · skip
          refine r_aload_n rfl rfl ?_
          refine r_iload rfl rfl ?_
          refine r_iload rfl rfl ?_
          refine r_cV3 rfl (so184 hS) (Nat.le_of_ble_eq_true rfl) rfl rfl (wol _ (fun p1 p2 => ?_) (fun p0 => ?_))
          · skip
            refine r_if_ne1 rfl ?_
            refine r_iconst rfl ?_
            refine flat hD 0 ?_
            rw [wqO_1 ⟨hD, by
              by_cases k : knd e.2.2.1 e.2.2.2 = 3
              · exact k
              · rw [if_neg k] at h63; exact absurd rfl h63, h68, p1, p2⟩]
          · skip
            refine r_if_ne0 rfl ?_
            refine r_iconst rfl ?_
            refine r_goto rfl ?_
            refine flat hD 1 ?_
            rw [wqO_0 (fun q => p0 ⟨q.2.2.2.1, q.2.2.2.2⟩)]; omega
  have steep : xD I J e I2 J2 o ≠ 0 → z0 ≠ 0 → Run X (d + 5) c_M_findMeets 79 [some (pR 184), some (pI f), some (pI f2), some (pI x), some (pI (i : Int)), some (pI (j : Int)), some (pI z0)] [] S zI zL 0 0 Q := by
    intro hD hz00
    have hw : wqO I J V I2 J2 V2 e x o = x := wqO_0 (fun q => hD q.1)
    rw [hw] at nohit hQ
    have hP := hpb hD
    have hPM : PM (stM zL (mqX I J V e I2 J2 V2 o) (mqXD I J V e I2 J2 V2 o) (mqY I J V e I2 J2 V2 o) (mqYD I J V e I2 J2 V2 o)) (mqX I J V e I2 J2 V2 o) (mqXD I J V e I2 J2 V2 o) (mqY I J V e I2 J2 V2 o) (mqYD I J V e I2 J2 V2 o) := PM_st
    obtain ⟨zs, hzs⟩ : ∃ zs, zs = stM zL (mqX I J V e I2 J2 V2 o) (mqXD I J V e I2 J2 V2 o) (mqY I J V e I2 J2 V2 o) (mqYD I J V e I2 J2 V2 o) := ⟨_, rfl⟩
    have fs : frQL zs zL := by rw [hzs]; exact frQL_s
    have zr : ∀ k, k ≠ 203 → k ≠ 184 → zs k = zL k := fun k _ h => by rw [hzs]; exact stM_row h
    rw [← hzs] at wsb hPM
    have ra := hR.2.2 e.1 ae.1 ae.2
    have rb := hR2.2.2 o.1 ao.1 ao.2
    have w1 := wv_b ⟨ra.1, ra.2.1⟩ ⟨ra.2.2.1, ra.2.2.2.1⟩ ra.2.2.2.2 hP
    have w2 := leastS_b hR hP
    have w3 := wv_b ⟨rb.1, rb.2.1⟩ ⟨rb.2.2.1, rb.2.2.2.1⟩ rb.2.2.2.2 hP
    have w4 := leastS_b hR2 hP
    have hkm : mHit n I J V n2 I2 J2 V2 e o → ∀ y, Run X (d + 5) c_M_findMeets 123 [some (pR 184), some (pI f), some (pI f2), some (pI x), some (pI (i : Int)), some (pI (j : Int)), some (pI z0)] [pI y, pR 184] S zI zs 0 0 Q → True := fun _ _ _ => trivial
    have keep : mHit n I J V n2 I2 J2 V2 e o → Run X (d + 5) c_M_findMeets 123 [some (pR 184), some (pI f), some (pI f2), some (pI x), some (pI (i : Int)), some (pI (j : Int)), some (pI z0)] [pI (ab1 (xD I J e I2 J2 o)), pR 184] S zI zs 0 0 Q := by
      intro hh
      rw [mmO_1 hh] at hQ hcap
      have hms : ms.1 < 800 := by
        have : ms.1 + 1 ≤ 800 := hcap
        omega
      refine r_cV2 rfl (so184 hS) (Nat.le_of_ble_eq_true rfl) rfl rfl (x_keepMeet hS (MM_fr hM rfl rfl (zr 212 (by decide) (by decide))) hMR hms hPM hP (fun z3 z4 f3 f4 hM3 => ?_))
      exact hQ z3 z4 _ f3 (frQL_t fs (frQL_M f4)) hM3 (notU_R hMR hP)
    clear hkm
    refine r_aload_n rfl rfl ?_
    refine r_iload rfl rfl ?_
    refine r_iload rfl rfl ?_
    refine r_cV3 rfl (so184 hS) (Nat.le_of_ble_eq_true rfl) rfl rfl (wsb _ hD ?_)
    refine r_aload_n rfl rfl ?_
    refine r_aload_n rfl rfl ?_
    refine r_getR rfl (so184 hS) (sr184_37 hS) ?_
    refine r_iload rfl rfl ?_
    refine r_iald rfl (sw206 hS) (by omega) (by omega) ?_
    rw [q1]
    refine r_cV2 rfl (so184 hS) (Nat.le_of_ble_eq_true rfl) rfl rfl (x_worthOf hS hf hT hR hPM ae.1 ae.2 rfl ?_)
    refine r_aload_n rfl rfl ?_
    refine r_iload_n rfl rfl ?_
    refine r_cV2 rfl (so184 hS) (Nat.le_of_ble_eq_true rfl) rfl rfl (x_leastOf hS hf hT hR hPM hP npos ?_)
    refine r_l_ne rfl rfl (by unfold inL; omega) (by unfold inL; omega) (fun h93 => ?_) (fun h93 => ?_)
    · skip
      exact nohit (fun q => h93 q.2.1) zs _ fs zr
    · skip
      refine r_aload_n rfl rfl ?_
      refine r_aload_n rfl rfl ?_
      refine r_getR rfl (so184 hS) (sr184_19 hS) ?_
      refine r_iload rfl rfl ?_
      refine r_iald rfl (sw196 hS) (by omega) (by omega) ?_
      rw [g1]
      refine r_cV2 rfl (so184 hS) (Nat.le_of_ble_eq_true rfl) rfl rfl (x_worthOf hS hf2 hT2 hR2 hPM ao.1 ao.2 rfl ?_)
      refine r_aload_n rfl rfl ?_
      refine r_iload_n rfl rfl ?_
      refine r_cV2 rfl (so184 hS) (Nat.le_of_ble_eq_true rfl) rfl rfl (x_leastOf hS hf2 hT2 hR2 hPM hP n2pos ?_)
      refine r_l_eq rfl rfl (by unfold inL; omega) (by unfold inL; omega) (fun h104 => ?_) (fun h104 => ?_)
      · skip
        refine r_aload_n rfl rfl ?_
        refine r_iload rfl rfl ?_
        refine r_if_ge rfl (by unfold inI; omega) (fun h108 => ?_) (fun h108 => ?_)
        · skip
          refine r_iload rfl rfl ?_
          refine r_aload_n rfl rfl ?_
          refine r_getR rfl (so184 hS) (sr184_41 hS) ?_
          refine r_iload rfl rfl ?_
          refine r_iald rfl (sw210 hS) (by omega) (by omega) ?_
          rw [q5]
          refine r_imul rfl ?_
          refine r_aload_n rfl rfl ?_
          refine r_getR rfl (so184 hS) (sr184_23 hS) ?_
          refine r_iload rfl rfl ?_
          refine r_iald rfl (sw200 hS) (by omega) (by omega) ?_
          rw [g5]
          refine r_imul rfl ?_
          rw [szz.2.2 h108]
          exact keep ⟨hD, h93, h104⟩
        · skip
          refine r_iload rfl rfl ?_
          refine r_ineg rfl ?_
          refine r_goto rfl ?_
          refine r_aload_n rfl rfl ?_
          refine r_getR rfl (so184 hS) (sr184_41 hS) ?_
          refine r_iload rfl rfl ?_
          refine r_iald rfl (sw210 hS) (by omega) (by omega) ?_
          rw [q5]
          refine r_imul rfl ?_
          refine r_aload_n rfl rfl ?_
          refine r_getR rfl (so184 hS) (sr184_23 hS) ?_
          refine r_iload rfl rfl ?_
          refine r_iald rfl (sw200 hS) (by omega) (by omega) ?_
          rw [g5]
          refine r_imul rfl ?_
          rw [szz.2.1 h108]
          exact keep ⟨hD, h93, h104⟩
      · skip
        refine r_goto rfl ?_
        exact nohit (fun q => h104 q.2.2) zs _ fs zr
  refine r_aload_n rfl rfl ?_
  refine r_getR rfl (so184 hS) (sr184_39 hS) ?_
  refine r_iload rfl rfl ?_
  refine r_iald rfl (sw208 hS) (by omega) (by omega) ?_
  rw [q3]
  refine r_aload_n rfl rfl ?_
  refine r_getR rfl (so184 hS) (sr184_22 hS) ?_
  refine r_iload rfl rfl ?_
  refine r_iald rfl (sw199 hS) (by omega) (by omega) ?_
  rw [g4]
  refine r_imul rfl ?_
  refine r_aload_n rfl rfl ?_
  refine r_getR rfl (so184 hS) (sr184_40 hS) ?_
  refine r_iload rfl rfl ?_
  refine r_iald rfl (sw209 hS) (by omega) (by omega) ?_
  rw [q4]
  refine r_aload_n rfl rfl ?_
  refine r_getR rfl (so184 hS) (sr184_21 hS) ?_
  refine r_iload rfl rfl ?_
  refine r_iald rfl (sw198 hS) (by omega) (by omega) ?_
  rw [g3]
  refine r_imul rfl ?_
  refine r_isub rfl ?_
  rw [← hz0]
  refine r_istore rfl (Nat.le_of_ble_eq_true rfl) ?_
  refine r_iload rfl rfl ?_
  refine r_if_ne rfl (by unfold inI; omega) (fun h56 => ?_) (fun h56 => ?_)
  · skip
    exact steep (fun q => h56 (szz.1.mpr q)) h56
  · skip
    exact flat0 (szz.1.mp h56)
