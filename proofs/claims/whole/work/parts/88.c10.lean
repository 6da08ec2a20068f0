/-! THE CLASS: corner, root, write, check -/
set_option maxHeartbeats 4000000 in
theorem c_corner {X : PX} {d : Nat} {S : SS} {zI zL : ZM} {Q : PQ} (hS : Sk S) {a : FA} (hA : CF S zI zL a) (hk : FOK a) {f c u : Int} (hf : inI f) (hc : inI c) (hu : inI u) (hDR : DRa a) (hQ : ∀ z z2, frV z zI → frV z2 zL → CF S z z2 a → Q (some (pL (sCor a f c u))) S z z2) : wpM X (d + 7) fC_corner [pR 0, pI f, pI c, pI u] S zI zL Q := by
  have hA0 := hA
  obtain ⟨⟨cF0, cF14, cF75⟩, cFf⟩ := hA
  have k10 := hk.1.2
  have k00' := hk.1.1
  unfold sCor at hQ
  refine wp_in (C := c_C_corner) (ls := [some (pR 0), some (pI f), some (pI c), some (pI u), none]) rfl rfl rfl rfl rfl ?_
  refine r_aload_n rfl rfl ?_
  refine r_iload_n rfl rfl ?_
  refine r_cV2 rfl (so0 hS) (Nat.le_of_ble_eq_true rfl) rfl rfl (c_exists (d := d + 4) hS hA0 hk hf (fun p q => ?_) (fun p => ?_))
  · skip
    refine r_if_eq1 rfl ?_
    refine r_iload_n rfl rfl ?_
    refine r_iconst rfl ?_
    refine r_bipush rfl ?_
    refine r_cS3 rfl (by decide) (Nat.le_of_ble_eq_true rfl) rfl rfl (c_within (d := d + 5) hu (by unfold inI; omega) (by unfold inI; omega) (fun u0 u1 => ?_) (fun pe => ?_))
    · skip
      refine r_if_ne1 rfl ?_
      have ef : 0 ≤ f ∧ f < a.1 := ⟨p, q⟩
      have f10 : f < 10 := by omega
      obtain ⟨rF, rG⟩ := c_F hS p f10
      have hform := sk_form hS (k := f.toNat) (by omega)
      have hfo := hform.1
      obtain ⟨hFH, hkd, hdr, hcv⟩ := cFf f p q
      obtain ⟨hR, hS2, hkb, hk12⟩ := hk.2 f p q
      have e4 := hFH.1
      have hn0 := hR.1
      have hn40 := hR.2.1
      
      refine r_aload_n rfl rfl ?_
      refine r_iload_n rfl rfl ?_
      refine r_cV2 rfl (so0 hS) (Nat.le_of_ble_eq_true rfl) rfl rfl (c_curveOf hS hA0 hk p q (fun z z2 fz fz2 fd hCF hC h5 => ?_))
      have hC0 := hC
      have hdw := hDR f ef.1 ef.2
      obtain ⟨hcob, -, hcpt, ⟨hco6, -, -⟩, ⟨cr11, cr12, cr13, cr14⟩, ⟨cc0, cc1, cc2, cc3⟩, cc4, cc5, cc6, cc7⟩ := sk_curve hS (k := (f).toNat) (by omega)
      obtain ⟨-, hFH3, -, ⟨ce8, ⟨cne0, cne1⟩, ced⟩, hPsH, hPsR, cm75⟩ := hC
      have hdx := hdw
      obtain ⟨dr1, dr2, dr3, dr4⟩ := hdx
      have cm5 := hPsH.1
      obtain ⟨hb26, hb161⟩ := fO_b ef.1 (show f < 10 by omega)
      have hcn : 0 ≤ cM (drwS (gN a f) (gI a f) (gJ a f) (gV a f)) := hPsR.1
      refine r_astore rfl (Nat.le_of_ble_eq_true rfl) ?_
      refine r_iload_n rfl rfl ?_
      refine r_iconst rfl ?_
      refine r_aload rfl rfl ?_
      refine r_getR rfl (by assumption) (by assumption) ?_
      refine r_getI rfl (by assumption) ?_
      rw [cm5]
      refine r_iconst rfl ?_
      refine r_isub rfl ?_
      refine r_cS3 rfl (by decide) (Nat.le_of_ble_eq_true rfl) rfl rfl (c_within (d := d + 5) hc (by unfold inI; omega) (by unfold inI; omega) (fun c0 c1 => ?_) (fun pe => ?_))
      · skip
        refine r_if_ne1 rfl ?_
        obtain ⟨⟨m1, m2, m3, m4⟩, m5⟩ := dr3 c c0 (by omega)
        rw [if_pos ⟨ef, c0, ⟨u0, u1⟩, (by unfold crA; omega)⟩] at hQ
        have hQ : ∀ z z2, frV z zI → frV z2 zL → CF S z z2 a → Q (some (pL (crV (gN a f) (gI a f) (gJ a f) (gV a f) (crL (gN a f) (gI a f) (gJ a f) (gV a f)) c u))) S z z2 := hQ
        refine r_iload_n rfl rfl ?_
        by_cases u4 : u = 4
        · subst u4
          refine r_tsw rfl hu rfl ?_
          refine r_aload rfl rfl ?_
          refine r_iload_n rfl rfl ?_
          refine r_cV2 rfl (by assumption) (Nat.le_of_ble_eq_true rfl) rfl rfl (w_countLeastAt (d := d + 1) hC0 ⟨c0, by omega⟩ (fun z6 fz6 => ?_))
          rw [m1, m2, m3, m4]
          have hct : 0 ≤ countS (gN a f) (gI a f) (gJ a f) (gV a f) ((crL (gN a f) (gI a f) (gJ a f) (gV a f)).2.1 c) ((crL (gN a f) (gI a f) (gJ a f) (gV a f)).2.2.1 c) ((crL (gN a f) (gI a f) (gJ a f) (gV a f)).2.2.2.1 c) ((crL (gN a f) (gI a f) (gJ a f) (gV a f)).2.2.2.2.1 c) ∧ countS (gN a f) (gI a f) (gJ a f) (gV a f) ((crL (gN a f) (gI a f) (gJ a f) (gV a f)).2.1 c) ((crL (gN a f) (gI a f) (gJ a f) (gV a f)).2.2.1 c) ((crL (gN a f) (gI a f) (gJ a f) (gV a f)).2.2.2.1 c) ((crL (gN a f) (gI a f) (gJ a f) (gV a f)).2.2.2.2.1 c) ≤ ((gN a f).toNat : Int) := cnt_b _ _ _
          refine r_i2l rfl (by show inI (countS (gN a f) (gI a f) (gJ a f) (gV a f) ((crL (gN a f) (gI a f) (gJ a f) (gV a f)).2.1 c) ((crL (gN a f) (gI a f) (gJ a f) (gV a f)).2.2.1 c) ((crL (gN a f) (gI a f) (gJ a f) (gV a f)).2.2.2.1 c) ((crL (gN a f) (gI a f) (gJ a f) (gV a f)).2.2.2.2.1 c)); unfold inI; omega) ?_
          refine r_lret rfl ?_
          unfold crV at hQ; rw [if_neg (by decide), if_pos rfl] at hQ; exact hQ z z6 fz (frV_t fz2 (frV_5 p f10 fz6)) (CF_5 hCF hk fz6)
        by_cases u5 : u = 5
        · subst u5
          refine r_tsw rfl hu rfl ?_
          refine r_aload rfl rfl ?_
          refine r_iload_n rfl rfl ?_
          refine r_cV2 rfl (by assumption) (Nat.le_of_ble_eq_true rfl) rfl rfl (w_areaAt (d := d + 2) hC0 hb26 (c_ring hS) ⟨c0, by omega⟩ (fun z5 z6 fz5 fz6 => ?_))
          rw [m1, m2, m3, m4]
          have hab : -20000 ≤ areaC (gN a f) (gI a f) (gJ a f) (gV a f) ((crL (gN a f) (gI a f) (gJ a f) (gV a f)).2.1 c) ((crL (gN a f) (gI a f) (gJ a f) (gV a f)).2.2.1 c) ((crL (gN a f) (gI a f) (gJ a f) (gV a f)).2.2.2.1 c) ((crL (gN a f) (gI a f) (gJ a f) (gV a f)).2.2.2.2.1 c) ∧ areaC (gN a f) (gI a f) (gJ a f) (gV a f) ((crL (gN a f) (gI a f) (gJ a f) (gV a f)).2.1 c) ((crL (gN a f) (gI a f) (gJ a f) (gV a f)).2.2.1 c) ((crL (gN a f) (gI a f) (gJ a f) (gV a f)).2.2.2.1 c) ((crL (gN a f) (gI a f) (gJ a f) (gV a f)).2.2.2.2.1 c) ≤ 20000 := areaS_b hR
          refine r_i2l rfl (by show inI (areaC (gN a f) (gI a f) (gJ a f) (gV a f) ((crL (gN a f) (gI a f) (gJ a f) (gV a f)).2.1 c) ((crL (gN a f) (gI a f) (gJ a f) (gV a f)).2.2.1 c) ((crL (gN a f) (gI a f) (gJ a f) (gV a f)).2.2.2.1 c) ((crL (gN a f) (gI a f) (gJ a f) (gV a f)).2.2.2.2.1 c)); unfold inI; omega) ?_
          refine r_lret rfl ?_
          unfold crV at hQ; rw [if_neg (by decide), if_neg (by decide), if_pos rfl] at hQ; exact hQ z5 z6 (frV_t fz (frV_G5 fz5)) (frV_t fz2 (frV_5 p f10 fz6)) (CF_G5 hCF hk fz5 (fun g c g0 g1 c0 c1 => fz6 c (fO_5 c0 c1)))
        by_cases u6 : u = 6
        · subst u6
          refine r_tsw rfl hu rfl ?_
          refine r_aload rfl rfl ?_
          refine r_iload_n rfl rfl ?_
          refine r_cV2 rfl (by assumption) (Nat.le_of_ble_eq_true rfl) rfl rfl (w_countEdgesAt (d := d + 5) hC0 ⟨c0, by omega⟩ ?_)
          rw [← m5]
          have hhb := (crL_had (gN a f) (gI a f) (gJ a f) (gV a f)).2 c c0 (by omega)
          refine r_i2l rfl (by unfold inI; omega) ?_
          refine r_lret rfl ?_
          unfold crV at hQ; rw [if_neg (by decide), if_neg (by decide), if_neg (by decide)] at hQ; exact hQ z z2 fz fz2 hCF
        refine r_tsw (t := 43) rfl hu ?_ ?_
        · unfold psw
          have e : (u < 4 ∨ 6 < u) := by omega
          exact if_pos e
        refine r_aload rfl rfl ?_
        refine r_getR rfl (by assumption) (by assumption) ?_
        refine r_iload_n rfl rfl ?_
        refine r_iload_n rfl rfl ?_
        refine r_cV3 rfl (by assumption) (Nat.le_of_ble_eq_true rfl) rfl rfl (w_part (d := d + 5) (sk_curve hS (k := f.toNat) (by omega)).2.2.2.1 hPsH hPsR cm75 hu c0 (by omega) ?_)
        rw [m1, m2, m3, m4]
        refine r_lret rfl ?_
        unfold crV at hQ; rw [if_pos (by omega)] at hQ; exact hQ z z2 fz fz2 hCF
      · skip
        refine r_if_ne0 rfl ?_
        refine r_ldc2_w rfl ?_
        refine r_lret rfl ?_
        rw [if_neg (fun k => pe ⟨k.2.1, by have h9 := k.2.2.2; unfold crA at h9; omega⟩)] at hQ; exact hQ z z2 fz fz2 hCF
    · skip
      refine r_if_ne0 rfl ?_
      refine r_ldc2_w rfl ?_
      refine r_lret rfl ?_
      rw [if_neg (fun k => pe k.2.2.1)] at hQ; exact hQ zI zL (frV_r _) (frV_r _) hA0
  · skip
    refine r_if_eq0 rfl ?_
    refine r_ldc2_w rfl ?_
    refine r_lret rfl ?_
    rw [if_neg (fun k => p k.1)] at hQ; exact hQ zI zL (frV_r _) (frV_r _) hA0
theorem CF_P23b {S : SS} {z zL zL2 : ZM} {a : FA} (hC : CF S z zL a) (hk : FOK a) (h : ∀ c, c ≠ 23 → zL2 c = zL c) : CF S z zL2 a ∧ frV zL2 zL := ⟨CF_P23 hC hk h, frV_P23 h⟩
theorem oneL_i {n : Int} {J : Int → Int} : oneL n J = 0 ∨ oneL n J = 1 := by unfold oneL; split; exact Or.inr rfl; exact Or.inl rfl
set_option maxHeartbeats 4000000 in
theorem c_root {X : PX} {d : Nat} {S : SS} {zI zL : ZM} {Q : PQ} (hS : Sk S) {a : FA} (hA : CF S zI zL a) (hk : FOK a) {f i u : Int} (hf : inI f) (hi : inI i) (hu : inI u) (hDR : DRa a) (hQ : ∀ z z2, frV z zI → frV z2 zL → CF S z z2 a → Q (some (pL (sRoo a f i u))) S z z2) : wpM X (d + 7) fC_root [pR 0, pI f, pI i, pI u] S zI zL Q := by
  have hA0 := hA
  obtain ⟨⟨cF0, cF14, cF75⟩, cFf⟩ := hA
  have k10 := hk.1.2
  have k00' := hk.1.1
  unfold sRoo at hQ
  have main : (0 ≤ f ∧ f < a.1) → (0 ≤ u ∧ u ≤ 2) → oneL (gN a f) (gJ a f) = 1 → Run X (d + 6) c_C_root 17 [some (pR 0), some (pI f), some (pI i), some (pI u), none, none] [] S zI zL 0 0 Q := by
    intro ef' bu ho
    obtain ⟨p, q⟩ := ef'
    obtain ⟨u0, u1⟩ := bu
    have ef : 0 ≤ f ∧ f < a.1 := ⟨p, q⟩
    have f10 : f < 10 := by omega
    obtain ⟨rF, rG⟩ := c_F hS p f10
    have hform := sk_form hS (k := f.toNat) (by omega)
    have hfo := hform.1
    obtain ⟨hFH, hkd, hdr, hcv⟩ := cFf f p q
    obtain ⟨hR, hS2, hkb, hk12⟩ := hk.2 f p q
    have e4 := hFH.1
    have hn0 := hR.1
    have hn40 := hR.2.1
    refine r_aload_n rfl rfl ?_
    refine r_iload_n rfl rfl ?_
    refine r_cV2 rfl (so0 hS) (Nat.le_of_ble_eq_true rfl) rfl rfl (c_curveOf hS hA0 hk p q (fun z z2 fz fz2 fd hCF hC h5 => ?_))
    have hC0 := hC
    have hdw := hDR f ef.1 ef.2
    obtain ⟨hcob, -, hcpt, ⟨hco6, -, -⟩, ⟨cr11, cr12, cr13, cr14⟩, ⟨cc0, cc1, cc2, cc3⟩, cc4, cc5, cc6, cc7⟩ := sk_curve hS (k := (f).toNat) (by omega)
    obtain ⟨-, hFH3, -, ⟨ce8, ⟨cne0, cne1⟩, ced⟩, hPsH, hPsR, cm75⟩ := hC
    have hdx := hdw
    obtain ⟨dr1, dr2, dr3, dr4⟩ := hdx
    have cm5 := hPsH.1
    obtain ⟨hb26, hb161⟩ := fO_b ef.1 (show f < 10 by omega)
    
    refine r_astore rfl (Nat.le_of_ble_eq_true rfl) ?_
    refine r_iload_n rfl rfl ?_
    refine r_iconst rfl ?_
    refine r_aload rfl rfl ?_
    refine r_getI rfl (by assumption) ?_
    rw [ce8]
    refine r_iconst rfl ?_
    refine r_isub rfl ?_
    refine r_cS3 rfl (by decide) (Nat.le_of_ble_eq_true rfl) rfl rfl (c_within (d := d + 5) hi (by unfold inI; omega) (by unfold inI; omega) (fun i0 i1 => ?_) (fun pe => ?_))
    · skip
      refine r_if_ne1 rfl ?_
      refine r_aload rfl rfl ?_
      refine r_getI rfl (by assumption) ?_
      rw [ce8]
      refine r_iconst rfl ?_
      refine r_isub rfl ?_
      refine r_iload_n rfl rfl ?_
      refine r_isub rfl ?_
      refine r_istore rfl (Nat.le_of_ble_eq_true rfl) ?_
      obtain ⟨e, he⟩ : ∃ e, e = cNE (drwS (gN a f) (gI a f) (gJ a f) (gV a f)) - 1 - i := ⟨_, rfl⟩
      rw [← he]
      obtain ⟨g, hge, hgm, ge1, ge2, ge3, ge4⟩ := eFo_get (L := edA a f) (e := e) (by omega) (by unfold edA; omega)
      obtain ⟨⟨b1, b2⟩, b3, b4⟩ := dr4 (e) (by omega) (by omega)
      obtain ⟨⟨d1, d2, d3, d4⟩, d5, d6, d7, d8, d9, d10, d11, d12⟩ := ced (e) (by omega) (by omega)
      have hel : (edA a f).length = (edL (gN a f) (gI a f) (gJ a f) (gV a f)).length := rfl
      have het : ((edA a f).length : Int).toNat - 1 - i.toNat = e.toNat := by omega
      rw [if_pos ⟨ef, i0, ⟨u0, u1⟩, ho, by omega⟩, het, hge] at hQ
      have hQ : ∀ z z2, frV z zI → frV z2 zL → CF S z z2 a → Q (some (pL (if u = 2 then gc (gI a f g.2.1 - gI a f g.1) (gJ a f g.2.1 - gJ a f g.1) else if u = 0 then rdA (gV a f g.1 - gV a f g.2.1) (gI a f g.2.1 - gI a f g.1) else rdB (gV a f g.1 - gV a f g.2.1) (gI a f g.2.1 - gI a f g.1)))) S z z2 := hQ
      obtain ⟨i1', i2', i3'⟩ := dif_b hR ⟨d5, d6⟩ ⟨d7, d8⟩
      have gb := gc_b (a := gI a f (cLA (drwS (gN a f) (gI a f) (gJ a f) (gV a f)) e) - gI a f (cFO (drwS (gN a f) (gI a f) (gJ a f) (gV a f)) e)) (b := gJ a f (cLA (drwS (gN a f) (gI a f) (gJ a f) (gV a f)) e) - gJ a f (cFO (drwS (gN a f) (gI a f) (gJ a f) (gV a f)) e)) (B := 8) i1' i2' (by decide)
      refine r_iload_n rfl rfl ?_
      refine r_iconst rfl ?_
      refine r_icmp_ne rfl hu (by unfold inI; omega) (fun h40 => ?_) (fun h40 => ?_)
      · skip
        refine r_aload_n rfl rfl ?_
        refine r_getR rfl (so0 hS) (sr0_8 hS) ?_
        refine r_aload rfl rfl ?_
        refine r_iload rfl rfl ?_
        refine r_cV2 rfl (by assumption) (Nat.le_of_ble_eq_true rfl) rfl rfl (w_level (d := d + 5) hC0 (by omega) (by omega) ?_)
        
        refine r_i2l rfl (by unfold inI; omega) ?_
        refine r_lconst rfl ?_
        refine r_aload rfl rfl ?_
        refine r_iload rfl rfl ?_
        refine r_cV2 rfl (by assumption) (Nat.le_of_ble_eq_true rfl) rfl rfl (w_acrossI (d := d + 5) hC0 (by omega) (by omega) ?_)
        refine r_i2l rfl (by unfold inI; omega) ?_
        refine r_cV4 rfl (so23 hS) (Nat.le_of_ble_eq_true rfl) rfl rfl (w_reduce (d := d + 4) (so23 hS) (by omega) (by omega) (by omega) ?_)
        refine r_iload_n rfl rfl ?_
        refine r_if_ne rfl hu (fun h59 => ?_) (fun h59 => ?_)
        · skip
          refine r_aload_n rfl rfl ?_
          refine r_getR rfl (so0 hS) (sr0_8 hS) ?_
          refine r_getL rfl (so23 hS) ?_
          
          refine r_lret rfl ?_
          rw [if_neg h40, if_neg h59] at hQ
          rw [b1, b2, show eFo (edL (gN a f) (gI a f) (gJ a f) (gV a f)) e = g.1 from ge1, show eLa (edL (gN a f) (gI a f) (gJ a f) (gV a f)) e = g.2.1 from ge2]
          rw [zput_off (by decide), zput_off (by decide), zput_at]
          refine hQ z _ fz (frV_t fz2 (frV_P23 ?_)) (CF_P23 hCF hk ?_) <;> (intro c hc; rw [zput_row hc, zput_row hc, zput_row hc, zput_row hc])
        · skip
          refine r_aload_n rfl rfl ?_
          refine r_getR rfl (so0 hS) (sr0_8 hS) ?_
          refine r_getL rfl (so23 hS) ?_
          refine r_goto rfl ?_
          
          refine r_lret rfl ?_
          rw [if_neg h40, if_pos h59] at hQ
          rw [b1, b2, show eFo (edL (gN a f) (gI a f) (gJ a f) (gV a f)) e = g.1 from ge1, show eLa (edL (gN a f) (gI a f) (gJ a f) (gV a f)) e = g.2.1 from ge2]
          rw [zput_off (by decide), zput_off (by decide), zput_off (by decide), zput_at]
          refine hQ z _ fz (frV_t fz2 (frV_P23 ?_)) (CF_P23 hCF hk ?_) <;> (intro c hc; rw [zput_row hc, zput_row hc, zput_row hc, zput_row hc])
      · skip
        refine r_aload rfl rfl ?_
        refine r_iload rfl rfl ?_
        refine r_cV2 rfl (by assumption) (Nat.le_of_ble_eq_true rfl) rfl rfl (w_weight (d := d + 4) hC0 (by omega) (by omega) ?_)
        
        refine r_i2l rfl (by unfold inI; omega) ?_
        refine r_lret rfl ?_
        rw [b1, b2, show eFo (edL (gN a f) (gI a f) (gJ a f) (gV a f)) e = g.1 from ge1, show eLa (edL (gN a f) (gI a f) (gJ a f) (gV a f)) e = g.2.1 from ge2]
        rw [if_pos h40] at hQ
        exact hQ z z2 fz fz2 hCF
    · skip
      refine r_if_ne0 rfl ?_
      refine r_ldc2_w rfl ?_
      refine r_lret rfl ?_
      rw [if_neg (fun k => pe ⟨k.2.1, by have h9 := k.2.2.2.2; unfold edA at h9; omega⟩)] at hQ; exact hQ z z2 fz fz2 hCF
  refine wp_in (C := c_C_root) (ls := [some (pR 0), some (pI f), some (pI i), some (pI u), none, none]) rfl rfl rfl rfl rfl ?_
  refine r_aload_n rfl rfl ?_
  refine r_iload_n rfl rfl ?_
  refine r_cV2 rfl (so0 hS) (Nat.le_of_ble_eq_true rfl) rfl rfl (c_exists (d := d + 4) hS hA0 hk hf (fun p q => ?_) (fun p => ?_))
  · skip
    refine r_if_eq1 rfl ?_
    refine r_iload_n rfl rfl ?_
    refine r_iconst rfl ?_
    refine r_iconst rfl ?_
    refine r_cS3 rfl (by decide) (Nat.le_of_ble_eq_true rfl) rfl rfl (c_within (d := d + 5) hu (by unfold inI; omega) (by unfold inI; omega) (fun u0 u1 => ?_) (fun pe => ?_))
    · skip
      refine r_if_eq1 rfl ?_
      have ef : 0 ≤ f ∧ f < a.1 := ⟨p, q⟩
      have f10 : f < 10 := by omega
      obtain ⟨rF, rG⟩ := c_F hS p f10
      have hform := sk_form hS (k := f.toNat) (by omega)
      have hfo := hform.1
      obtain ⟨hFH, hkd, hdr, hcv⟩ := cFf f p q
      obtain ⟨hR, hS2, hkb, hk12⟩ := hk.2 f p q
      have e4 := hFH.1
      have hn0 := hR.1
      have hn40 := hR.2.1
      have ho := oneL_i (n := gN a f) (J := gJ a f)
      refine r_aload_n rfl rfl ?_
      refine r_getR rfl (so0 hS) (sr0_0 hS) ?_
      refine r_iload_n rfl rfl ?_
      refine r_aald rfl (sw1 hS) (by decide) (by omega) (by omega) (by assumption) ?_
      refine r_cV1 rfl (by assumption) (Nat.le_of_ble_eq_true rfl) rfl rfl (w_oneL (d := d + 5) hform hFH hR ?_)
      refine r_if_ne rfl (by unfold inI; omega) (fun h14 => ?_) (fun h14 => ?_)
      · skip
        exact main ef ⟨u0, u1⟩ (by omega)
      · skip
        refine r_ldc2_w rfl ?_
        refine r_lret rfl ?_
        rw [if_neg (fun k => by have h9 := k.2.2.2.1; omega)] at hQ; exact hQ zI zL (frV_r _) (frV_r _) hA0
    · skip
      refine r_if_eq0 rfl ?_
      refine r_ldc2_w rfl ?_
      refine r_lret rfl ?_
      rw [if_neg (fun k => pe k.2.2.1)] at hQ; exact hQ zI zL (frV_r _) (frV_r _) hA0
  · skip
    refine r_if_eq0 rfl ?_
    refine r_ldc2_w rfl ?_
    refine r_lret rfl ?_
    rw [if_neg (fun k => p k.1)] at hQ; exact hQ zI zL (frV_r _) (frV_r _) hA0
