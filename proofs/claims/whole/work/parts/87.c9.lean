/-! THE CLASS: same, edge, end, corner, root -/
set_option maxHeartbeats 1000000 in
theorem c_same {X : PX} {d : Nat} {S : SS} {zI zL : ZM} {Q : PQ} (hS : Sk S) {a : FA} (hA : CF S zI zL a) (hk : FOK a) {f g : Int} (hf : inI f) (hg : inI g) (hDR : DRa a) (hQ : ∀ z z2, frV z zI → frV z2 zL → CF S z z2 a → Q (some (pI (sSam a (idF a) f g))) S z z2) : wpM X (d + 7) fC_same [pR 0, pI f, pI g] S zI zL Q := by
  have hA0 := hA
  obtain ⟨⟨cF0, cF14, cF75⟩, cFf⟩ := hA
  have k10 := hk.1.2
  have k00' := hk.1.1
  unfold sSam at hQ
  have w1 := wiA_i a (idF a) f g
  have w2 := wiA_i a (idF a) g f
  refine wp_in (C := c_C_same) (ls := [some (pR 0), some (pI f), some (pI g), none, none]) rfl rfl rfl rfl rfl ?_
  refine r_aload_n rfl rfl ?_
  refine r_iload_n rfl rfl ?_
  refine r_cV2 rfl (so0 hS) (Nat.le_of_ble_eq_true rfl) rfl rfl (c_exists (d := d + 4) hS hA0 hk hf (fun p q => ?_) (fun p => ?_))
  · skip
    refine r_if_eq1 rfl ?_
    refine r_aload_n rfl rfl ?_
    refine r_iload_n rfl rfl ?_
    refine r_cV2 rfl (so0 hS) (Nat.le_of_ble_eq_true rfl) rfl rfl (c_exists (d := d + 4) hS hA0 hk hg (fun p2 q2 => ?_) (fun p => ?_))
    · skip
      refine r_if_ne1 rfl ?_
      have ef : 0 ≤ f ∧ f < a.1 := ⟨p, q⟩
      have f10f : f < 10 := by omega
      obtain ⟨rFf, rGf⟩ := c_F hS p f10f
      have hformf := sk_form hS (k := (f).toNat) (by omega)
      have hfof := hformf.1
      obtain ⟨hFHf, hkdf, hdrf, hcvf⟩ := cFf f p q
      obtain ⟨hRf, hSfs, hkbf, hktf⟩ := hk.2 f p q
      have eg : 0 ≤ g ∧ g < a.1 := ⟨p2, q2⟩
      have f10g : g < 10 := by omega
      obtain ⟨rFg, rGg⟩ := c_F hS p2 f10g
      have hformg := sk_form hS (k := (g).toNat) (by omega)
      have hfog := hformg.1
      obtain ⟨hFHg, hkdg, hdrg, hcvg⟩ := cFf g p2 q2
      obtain ⟨hRg, hSgs, hkbg, hktg⟩ := hk.2 g p2 q2
      rw [if_neg (fun k => k ⟨ef, eg⟩)] at hQ
      refine r_aload_n rfl rfl ?_
      refine r_iload_n rfl rfl ?_
      refine r_cV2 rfl (so0 hS) (Nat.le_of_ble_eq_true rfl) rfl rfl (c_curveOf hS hA0 hk p q (fun z z2 fz fz2 fd hCF hC h5 => ?_))
      refine r_astore_n rfl (Nat.le_of_ble_eq_true rfl) ?_
      refine r_aload_n rfl rfl ?_
      refine r_iload_n rfl rfl ?_
      refine r_cV2 rfl (so0 hS) (Nat.le_of_ble_eq_true rfl) rfl rfl (c_curveOf hS hCF hk p2 q2 (fun z3 z4 fz3 fz4 fd2 hCF2 hC2 h52 => ?_))
      refine r_astore rfl (Nat.le_of_ble_eq_true rfl) ?_
      have hdf := hDR f p q
      have hdg := hDR g p2 q2
      have hCf := (hCF2.2 f p q).2.2.2 (fd2 f p f10f h5)
      obtain ⟨hcobf, -⟩ := sk_curve hS (k := f.toNat) (by omega)
      obtain ⟨hcobg, -⟩ := sk_curve hS (k := g.toNat) (by omega)
      refine r_aload_n rfl rfl ?_
      refine r_aload rfl rfl ?_
      refine r_cV2 rfl (by assumption) (Nat.le_of_ble_eq_true rfl) rfl rfl (w_standsIn (d := d + 4) hCf hC2 ?_)
      rw [std_eq hRg.1 hdf hdg]
      refine r_if_eq rfl (by show inI (wiA a (idF a) f g); unfold inI; omega) (fun h21 => ?_) (fun h21 => ?_)
      · skip
        refine r_iconst rfl ?_
        refine r_iret rfl ?_
        have k1 : wiA a (idF a) f g = 0 := h21
        rw [if_neg (fun k => by omega)] at hQ; exact hQ z3 z4 (frV_t fz fz3) (frV_t fz2 fz4) hCF2
      · skip
        refine r_aload rfl rfl ?_
        refine r_aload_n rfl rfl ?_
        refine r_cV2 rfl (by assumption) (Nat.le_of_ble_eq_true rfl) rfl rfl (w_standsIn (d := d + 4) hC2 hCf ?_)
        rw [std_eq hRf.1 hdg hdf]
        refine r_if_eq rfl (by show inI (wiA a (idF a) g f); unfold inI; omega) (fun h25 => ?_) (fun h25 => ?_)
        · skip
          refine r_iconst rfl ?_
          refine r_iret rfl ?_
          have k1 : wiA a (idF a) g f = 0 := h25
          rw [if_neg (fun k => by omega)] at hQ; exact hQ z3 z4 (frV_t fz fz3) (frV_t fz2 fz4) hCF2
        · skip
          refine r_iconst rfl ?_
          refine r_goto rfl ?_
          refine r_iret rfl ?_
          have k1 : ¬ wiA a (idF a) f g = 0 := h21
          have k2 : ¬ wiA a (idF a) g f = 0 := h25
          rw [if_pos ⟨by omega, by omega⟩] at hQ; exact hQ z3 z4 (frV_t fz fz3) (frV_t fz2 fz4) hCF2
    · skip
      refine r_if_ne0 rfl ?_
      refine r_bipush rfl ?_
      refine r_iret rfl ?_
      rw [if_pos (fun k => p k.2)] at hQ; exact hQ zI zL (frV_r _) (frV_r _) hA0
  · skip
    refine r_if_eq0 rfl ?_
    refine r_bipush rfl ?_
    refine r_iret rfl ?_
    rw [if_pos (fun k => p k.1)] at hQ; exact hQ zI zL (frV_r _) (frV_r _) hA0
set_option maxHeartbeats 4000000 in
theorem c_edge {X : PX} {d : Nat} {S : SS} {zI zL : ZM} {Q : PQ} (hS : Sk S) {a : FA} (hA : CF S zI zL a) (hk : FOK a) {f e u : Int} (hf : inI f) (he : inI e) (hu : inI u) (hDR : DRa a) (hQ : ∀ z z2, frV z zI → frV z2 zL → CF S z z2 a → Q (some (pI (sEdg a f e u))) S z z2) : wpM X (d + 7) fC_edge [pR 0, pI f, pI e, pI u] S zI zL Q := by
  have hA0 := hA
  obtain ⟨⟨cF0, cF14, cF75⟩, cFf⟩ := hA
  have k10 := hk.1.2
  have k00' := hk.1.1
  unfold sEdg at hQ
  refine wp_in (C := c_C_edge) (ls := [some (pR 0), some (pI f), some (pI e), some (pI u), none]) rfl rfl rfl rfl rfl ?_
  refine r_aload_n rfl rfl ?_
  refine r_iload_n rfl rfl ?_
  refine r_cV2 rfl (so0 hS) (Nat.le_of_ble_eq_true rfl) rfl rfl (c_exists (d := d + 4) hS hA0 hk hf (fun p q => ?_) (fun p => ?_))
  · skip
    refine r_if_ne1 rfl ?_
    have ef : 0 ≤ f ∧ f < a.1 := ⟨p, q⟩
    have f10 : f < 10 := by omega
    obtain ⟨rF, rG⟩ := c_F hS p f10
    have hform := sk_form hS (k := f.toNat) (by omega)
    have hfo := hform.1
    obtain ⟨hFH, hkd, hdr, hcv⟩ := cFf f p q
    obtain ⟨hR, hS2, hkb, hk12⟩ := hk.2 f p q
    have e4 := hFH.1
    have hn0 := hR.1
    have hn40 := hR.2.1
    
    refine r_aload_n rfl rfl ?_
    refine r_iload_n rfl rfl ?_
    refine r_cV2 rfl (so0 hS) (Nat.le_of_ble_eq_true rfl) rfl rfl (c_curveOf hS hA0 hk p q (fun z z2 fz fz2 fd hCF hC h5 => ?_))
    have hC0 := hC
    have hdw := hDR f ef.1 ef.2
    obtain ⟨hcob, -, hcpt, ⟨hco6, -, -⟩, ⟨cr11, cr12, cr13, cr14⟩, ⟨cc0, cc1, cc2, cc3⟩, cc4, cc5, cc6, cc7⟩ := sk_curve hS (k := (f).toNat) (by omega)
    obtain ⟨-, hFH3, -, ⟨ce8, ⟨cne0, cne1⟩, ced⟩, hPsH, hPsR, cm75⟩ := hC
    have hdx := hdw
    obtain ⟨dr1, dr2, dr3, dr4⟩ := hdx
    have cm5 := hPsH.1
    obtain ⟨hb26, hb161⟩ := fO_b ef.1 (show f < 10 by omega)
    
    refine r_astore rfl (Nat.le_of_ble_eq_true rfl) ?_
    refine r_iload_n rfl rfl ?_
    refine r_iconst rfl ?_
    refine r_aload rfl rfl ?_
    refine r_getI rfl (by assumption) ?_
    rw [ce8]
    refine r_iconst rfl ?_
    refine r_isub rfl ?_
    refine r_cS3 rfl (by decide) (Nat.le_of_ble_eq_true rfl) rfl rfl (c_within (d := d + 5) he (by unfold inI; omega) (by unfold inI; omega) (fun e0 e1 => ?_) (fun pe => ?_))
    · skip
      refine r_if_ne1 rfl ?_
      obtain ⟨g, hge, hgm, ge1, ge2, ge3, ge4⟩ := eFo_get (L := edA a f) (e := e) (by omega) (by unfold edA; omega)
      obtain ⟨⟨b1, b2⟩, b3, b4⟩ := dr4 (e) (by omega) (by omega)
      obtain ⟨⟨d1, d2, d3, d4⟩, d5, d6, d7, d8, d9, d10, d11, d12⟩ := ced (e) (by omega) (by omega)
      obtain ⟨-, ⟨hrI, hrJ, hrV⟩, hrr0, hrr1, hrr2⟩ := hform
      refine r_iload_n rfl rfl ?_
      by_cases hu7 : 0 ≤ u ∧ u ≤ 7
      · have hQ : ∀ z z2, frV z zI → frV z2 zL → CF S z z2 a → Q (some (pI (edV (gI a f) (gJ a f) g u))) S z z2 := by
          rw [if_pos ⟨ef, e0, hu7⟩, hge] at hQ; exact hQ
        by_cases u0 : u = 0
        · subst u0
          refine r_tsw rfl hu rfl ?_
          refine r_aload rfl rfl ?_
          refine r_iload_n rfl rfl ?_
          refine r_cV2 rfl (by assumption) (Nat.le_of_ble_eq_true rfl) rfl rfl (w_directionX (d := d + 3) hC0 e0 (by omega) ?_)
          rw [b1, b2, show eFo (edL (gN a f) (gI a f) (gJ a f) (gV a f)) e = g.1 from ge1, show eLa (edL (gN a f) (gI a f) (gJ a f) (gV a f)) e = g.2.1 from ge2]
          refine r_iret rfl ?_
          exact hQ z z2 fz fz2 hCF
        by_cases u1 : u = 1
        · subst u1
          refine r_tsw rfl hu rfl ?_
          refine r_aload rfl rfl ?_
          refine r_iload_n rfl rfl ?_
          refine r_cV2 rfl (by assumption) (Nat.le_of_ble_eq_true rfl) rfl rfl (w_directionY (d := d + 3) hC0 e0 (by omega) ?_)
          rw [b1, b2, show eFo (edL (gN a f) (gI a f) (gJ a f) (gV a f)) e = g.1 from ge1, show eLa (edL (gN a f) (gI a f) (gJ a f) (gV a f)) e = g.2.1 from ge2]
          refine r_iret rfl ?_
          exact hQ z z2 fz fz2 hCF
        by_cases u2 : u = 2
        · subst u2
          refine r_tsw rfl hu rfl ?_
          refine r_aload rfl rfl ?_
          refine r_iload_n rfl rfl ?_
          refine r_cV2 rfl (by assumption) (Nat.le_of_ble_eq_true rfl) rfl rfl (w_weight (d := d + 4) hC0 e0 (by omega) ?_)
          rw [b1, b2, show eFo (edL (gN a f) (gI a f) (gJ a f) (gV a f)) e = g.1 from ge1, show eLa (edL (gN a f) (gI a f) (gJ a f) (gV a f)) e = g.2.1 from ge2]
          refine r_iret rfl ?_
          exact hQ z z2 fz fz2 hCF
        by_cases u3 : u = 3
        · subst u3
          refine r_tsw rfl hu rfl ?_
          refine r_aload rfl rfl ?_
          refine r_iload_n rfl rfl ?_
          refine r_cV2 rfl (by assumption) (Nat.le_of_ble_eq_true rfl) rfl rfl (w_kindOf (d := d + 5) hC0 e0 (by omega) ?_)
          rw [knd_eq b3 b4, show eFi (edL (gN a f) (gI a f) (gJ a f) (gV a f)) e = g.2.2.1 from ge3, show eLs (edL (gN a f) (gI a f) (gJ a f) (gV a f)) e = g.2.2.2 from ge4]
          refine r_iret rfl ?_
          exact hQ z z2 fz fz2 hCF
        by_cases u4 : u = 4
        · subst u4
          refine r_tsw rfl hu rfl ?_
          refine r_aload_n rfl rfl ?_
          refine r_getR rfl (so0 hS) (sr0_0 hS) ?_
          refine r_iload_n rfl rfl ?_
          refine r_aald rfl (sw1 hS) (by decide) (by omega) (by omega) (by assumption) ?_
          refine r_getR rfl (by assumption) (by assumption) ?_
          refine r_aload rfl rfl ?_
          refine r_getR rfl (by assumption) (by assumption) ?_
          refine r_iload_n rfl rfl ?_
          refine r_iald rfl (by assumption) (by omega) (by omega) ?_
          rw [d1]
          refine r_iald rfl (by assumption) (by omega) (by omega) ?_
          rw [(hFH3.2 (cFO (drwS (gN a f) (gI a f) (gJ a f) (gV a f)) e) d5 d6).1]
          refine r_iret rfl ?_
          rw [b1, show eFo (edL (gN a f) (gI a f) (gJ a f) (gV a f)) e = g.1 from ge1]; exact hQ z z2 fz fz2 hCF
        by_cases u5 : u = 5
        · subst u5
          refine r_tsw rfl hu rfl ?_
          refine r_aload_n rfl rfl ?_
          refine r_getR rfl (so0 hS) (sr0_0 hS) ?_
          refine r_iload_n rfl rfl ?_
          refine r_aald rfl (sw1 hS) (by decide) (by omega) (by omega) (by assumption) ?_
          refine r_getR rfl (by assumption) (by assumption) ?_
          refine r_aload rfl rfl ?_
          refine r_getR rfl (by assumption) (by assumption) ?_
          refine r_iload_n rfl rfl ?_
          refine r_iald rfl (by assumption) (by omega) (by omega) ?_
          rw [d1]
          refine r_iald rfl (by assumption) (by omega) (by omega) ?_
          rw [(hFH3.2 (cFO (drwS (gN a f) (gI a f) (gJ a f) (gV a f)) e) d5 d6).2.1]
          refine r_iret rfl ?_
          rw [b1, show eFo (edL (gN a f) (gI a f) (gJ a f) (gV a f)) e = g.1 from ge1]; exact hQ z z2 fz fz2 hCF
        by_cases u6 : u = 6
        · subst u6
          refine r_tsw rfl hu rfl ?_
          refine r_aload_n rfl rfl ?_
          refine r_getR rfl (so0 hS) (sr0_0 hS) ?_
          refine r_iload_n rfl rfl ?_
          refine r_aald rfl (sw1 hS) (by decide) (by omega) (by omega) (by assumption) ?_
          refine r_getR rfl (by assumption) (by assumption) ?_
          refine r_aload rfl rfl ?_
          refine r_getR rfl (by assumption) (by assumption) ?_
          refine r_iload_n rfl rfl ?_
          refine r_iald rfl (by assumption) (by omega) (by omega) ?_
          rw [d2]
          refine r_iald rfl (by assumption) (by omega) (by omega) ?_
          rw [(hFH3.2 (cLA (drwS (gN a f) (gI a f) (gJ a f) (gV a f)) e) d7 d8).1]
          refine r_iret rfl ?_
          rw [b2, show eLa (edL (gN a f) (gI a f) (gJ a f) (gV a f)) e = g.2.1 from ge2]; exact hQ z z2 fz fz2 hCF
        have e7 : u = 7 := by omega
        subst e7
        refine r_tsw rfl hu rfl ?_
        refine r_aload_n rfl rfl ?_
        refine r_getR rfl (so0 hS) (sr0_0 hS) ?_
        refine r_iload_n rfl rfl ?_
        refine r_aald rfl (sw1 hS) (by decide) (by omega) (by omega) (by assumption) ?_
        refine r_getR rfl (by assumption) (by assumption) ?_
        refine r_aload rfl rfl ?_
        refine r_getR rfl (by assumption) (by assumption) ?_
        refine r_iload_n rfl rfl ?_
        refine r_iald rfl (by assumption) (by omega) (by omega) ?_
        rw [d2]
        refine r_iald rfl (by assumption) (by omega) (by omega) ?_
        rw [(hFH3.2 (cLA (drwS (gN a f) (gI a f) (gJ a f) (gV a f)) e) d7 d8).2.1]
        refine r_iret rfl ?_
        rw [b2, show eLa (edL (gN a f) (gI a f) (gJ a f) (gV a f)) e = g.2.1 from ge2]; exact hQ z z2 fz fz2 hCF
      · rw [if_neg (fun k => hu7 k.2.2)] at hQ
        refine r_tsw (t := 82) rfl hu ?_ ?_
        · unfold psw
          have e : (u < 0 ∨ 7 < u) := by omega
          exact if_pos e
        refine r_ldc rfl ?_
        refine r_iret rfl ?_
        exact hQ z z2 fz fz2 hCF
    · skip
      refine r_if_ne0 rfl ?_
      refine r_ldc rfl ?_
      refine r_iret rfl ?_
      by_cases hb : (0 ≤ f ∧ f < a.1) ∧ 0 ≤ e ∧ (0 ≤ u ∧ u ≤ 7)
      · rw [if_pos hb, List.getElem?_eq_none (by unfold edA; omega)] at hQ; exact hQ z z2 fz fz2 hCF
      · rw [if_neg hb] at hQ; exact hQ z z2 fz fz2 hCF
  · skip
    refine r_if_ne0 rfl ?_
    refine r_ldc rfl ?_
    refine r_iret rfl ?_
    rw [if_neg (fun k => p k.1)] at hQ; exact hQ zI zL (frV_r _) (frV_r _) hA0
set_option maxHeartbeats 4000000 in
theorem c_end {X : PX} {d : Nat} {S : SS} {zI zL : ZM} {Q : PQ} (hS : Sk S) {a : FA} (hA : CF S zI zL a) (hk : FOK a) {f e y u : Int} (hf : inI f) (he : inI e) (hy : inI y) (hu : inI u) (hDR : DRa a) (hQ : ∀ z z2, frV z zI → frV z2 zL → CF S z z2 a → Q (some (pL (sEnd a f e y u))) S z z2) : wpM X (d + 7) fC_end [pR 0, pI f, pI e, pI y, pI u] S zI zL Q := by
  have hA0 := hA
  obtain ⟨⟨cF0, cF14, cF75⟩, cFf⟩ := hA
  have k10 := hk.1.2
  have k00' := hk.1.1
  unfold sEnd at hQ
  refine wp_in (C := c_C_end) (ls := [some (pR 0), some (pI f), some (pI e), some (pI y), some (pI u), none, none]) rfl rfl rfl rfl rfl ?_
  refine r_aload_n rfl rfl ?_
  refine r_iload_n rfl rfl ?_
  refine r_cV2 rfl (so0 hS) (Nat.le_of_ble_eq_true rfl) rfl rfl (c_exists (d := d + 4) hS hA0 hk hf (fun p q => ?_) (fun p => ?_))
  · skip
    refine r_if_eq1 rfl ?_
    refine r_iload_n rfl rfl ?_
    refine r_iconst rfl ?_
    refine r_iconst rfl ?_
    refine r_cS3 rfl (by decide) (Nat.le_of_ble_eq_true rfl) rfl rfl (c_within (d := d + 5) hy (by unfold inI; omega) (by unfold inI; omega) (fun y0 y1 => ?_) (fun pe => ?_))
    · skip
      refine r_if_eq1 rfl ?_
      refine r_iload rfl rfl ?_
      refine r_iconst rfl ?_
      refine r_iconst rfl ?_
      refine r_cS3 rfl (by decide) (Nat.le_of_ble_eq_true rfl) rfl rfl (c_within (d := d + 5) hu (by unfold inI; omega) (by unfold inI; omega) (fun u0 u1 => ?_) (fun pe => ?_))
      · skip
        refine r_if_ne1 rfl ?_
        have ef : 0 ≤ f ∧ f < a.1 := ⟨p, q⟩
        have f10 : f < 10 := by omega
        obtain ⟨rF, rG⟩ := c_F hS p f10
        have hform := sk_form hS (k := f.toNat) (by omega)
        have hfo := hform.1
        obtain ⟨hFH, hkd, hdr, hcv⟩ := cFf f p q
        obtain ⟨hR, hS2, hkb, hk12⟩ := hk.2 f p q
        have e4 := hFH.1
        have hn0 := hR.1
        have hn40 := hR.2.1
        
        refine r_aload_n rfl rfl ?_
        refine r_iload_n rfl rfl ?_
        refine r_cV2 rfl (so0 hS) (Nat.le_of_ble_eq_true rfl) rfl rfl (c_curveOf hS hA0 hk p q (fun z z2 fz fz2 fd hCF hC h5 => ?_))
        have hC0 := hC
        have hdw := hDR f ef.1 ef.2
        obtain ⟨hcob, -, hcpt, ⟨hco6, -, -⟩, ⟨cr11, cr12, cr13, cr14⟩, ⟨cc0, cc1, cc2, cc3⟩, cc4, cc5, cc6, cc7⟩ := sk_curve hS (k := (f).toNat) (by omega)
        obtain ⟨-, hFH3, -, ⟨ce8, ⟨cne0, cne1⟩, ced⟩, hPsH, hPsR, cm75⟩ := hC
        have hdx := hdw
        obtain ⟨dr1, dr2, dr3, dr4⟩ := hdx
        have cm5 := hPsH.1
        obtain ⟨hb26, hb161⟩ := fO_b ef.1 (show f < 10 by omega)
        
        refine r_astore rfl (Nat.le_of_ble_eq_true rfl) ?_
        refine r_iload_n rfl rfl ?_
        refine r_iconst rfl ?_
        refine r_aload rfl rfl ?_
        refine r_getI rfl (by assumption) ?_
        rw [ce8]
        refine r_iconst rfl ?_
        refine r_isub rfl ?_
        refine r_cS3 rfl (by decide) (Nat.le_of_ble_eq_true rfl) rfl rfl (c_within (d := d + 5) he (by unfold inI; omega) (by unfold inI; omega) (fun e0 e1 => ?_) (fun pe => ?_))
        · skip
          refine r_if_ne1 rfl ?_
          obtain ⟨g, hge, hgm, ge1, ge2, ge3, ge4⟩ := eFo_get (L := edA a f) (e := e) (by omega) (by unfold edA; omega)
          obtain ⟨⟨b1, b2⟩, b3, b4⟩ := dr4 (e) (by omega) (by omega)
          obtain ⟨⟨d1, d2, d3, d4⟩, d5, d6, d7, d8, d9, d10, d11, d12⟩ := ced (e) (by omega) (by omega)
          rw [if_pos ⟨ef, e0, ⟨y0, y1⟩, u0, u1⟩, hge] at hQ
          have hQ : ∀ z z2, frV z zI → frV z2 zL → CF S z z2 a → Q (some (pL (if (if y = 0 then g.2.2.1 else g.2.2.2) = -1 then NOv else prt (cpX (gI a f) (gJ a f) (gV a f) g.1 g.2.1 (if y = 0 then g.2.2.1 else g.2.2.2)) (cpXD (gI a f) (gJ a f) (gV a f) g.1 g.2.1 (if y = 0 then g.2.2.1 else g.2.2.2)) (cpY (gI a f) (gJ a f) (gV a f) g.1 g.2.1 (if y = 0 then g.2.2.1 else g.2.2.2)) (cpYD (gI a f) (gJ a f) (gV a f) g.1 g.2.1 (if y = 0 then g.2.2.1 else g.2.2.2)) u))) S z z2 := hQ
          rw [show eFo (edL (gN a f) (gI a f) (gJ a f) (gV a f)) e = g.1 from ge1, show eLa (edL (gN a f) (gI a f) (gJ a f) (gV a f)) e = g.2.1 from ge2] at b3 b4
          rw [show eFi (edL (gN a f) (gI a f) (gJ a f) (gV a f)) e = g.2.2.1 from ge3] at b3
          rw [show eLs (edL (gN a f) (gI a f) (gJ a f) (gV a f)) e = g.2.2.2 from ge4] at b4
          unfold edO at b3 b4
          have xb : cM (drwS (gN a f) (gI a f) (gJ a f) (gV a f)) ≤ 75 := cm75
          refine r_iload_n rfl rfl ?_
          refine r_if_ne rfl hy (fun h31 => ?_) (fun h31 => ?_)
          · skip
            refine r_aload rfl rfl ?_
            refine r_getR rfl (by assumption) (by assumption) ?_
            refine r_iload_n rfl rfl ?_
            refine r_iald rfl (by assumption) (by omega) (by omega) ?_
            rw [d4]
            rw [if_neg h31] at hQ
            have bb := b4
            have rr : -1 ≤ cLS (drwS (gN a f) (gI a f) (gJ a f) (gV a f)) e ∧ cLS (drwS (gN a f) (gI a f) (gJ a f) (gV a f)) e < cM (drwS (gN a f) (gI a f) (gJ a f) (gV a f)) := ⟨d11, d12⟩
            refine r_istore rfl (Nat.le_of_ble_eq_true rfl) ?_
            refine r_iload rfl rfl ?_
            refine r_iconst rfl ?_
            refine r_icmp_ne rfl (by unfold inI; omega) (by unfold inI; omega) (fun h44 => ?_) (fun h44 => ?_)
            · skip
              refine r_aload rfl rfl ?_
              refine r_getR rfl (by assumption) (by assumption) ?_
              refine r_iload rfl rfl ?_
              refine r_iload rfl rfl ?_
              refine r_cV3 rfl (by assumption) (Nat.le_of_ble_eq_true rfl) rfl rfl (w_part (d := d + 5) (sk_curve hS (k := f.toNat) (by omega)).2.2.2.1 hPsH hPsR cm75 hu (by omega) (by omega) ?_)
              refine r_lret rfl ?_
              rcases bb with k | ⟨k1, k2, k3, k4, k5, k6, k7⟩
              · exact absurd k.1 h44
              · obtain ⟨⟨m1, m2, m3, m4⟩, -⟩ := dr3 _ k3.1 k3.2
                rw [if_neg k2] at hQ
                rw [m1, m2, m3, m4, k4, k5, k6, k7]
                exact hQ z z2 fz fz2 hCF
            · skip
              refine r_ldc2_w rfl ?_
              refine r_goto rfl ?_
              refine r_lret rfl ?_
              rw [if_pos (by rcases bb with k | k; exact k.2; exact absurd h44 k.1)] at hQ; exact hQ z z2 fz fz2 hCF
          · skip
            refine r_aload rfl rfl ?_
            refine r_getR rfl (by assumption) (by assumption) ?_
            refine r_iload_n rfl rfl ?_
            refine r_iald rfl (by assumption) (by omega) (by omega) ?_
            rw [d3]
            rw [if_pos h31] at hQ
            have bb := b3
            have rr : -1 ≤ cFI (drwS (gN a f) (gI a f) (gJ a f) (gV a f)) e ∧ cFI (drwS (gN a f) (gI a f) (gJ a f) (gV a f)) e < cM (drwS (gN a f) (gI a f) (gJ a f) (gV a f)) := ⟨d9, d10⟩
            refine r_goto rfl ?_
            refine r_istore rfl (Nat.le_of_ble_eq_true rfl) ?_
            refine r_iload rfl rfl ?_
            refine r_iconst rfl ?_
            refine r_icmp_ne rfl (by unfold inI; omega) (by unfold inI; omega) (fun h44 => ?_) (fun h44 => ?_)
            · skip
              refine r_aload rfl rfl ?_
              refine r_getR rfl (by assumption) (by assumption) ?_
              refine r_iload rfl rfl ?_
              refine r_iload rfl rfl ?_
              refine r_cV3 rfl (by assumption) (Nat.le_of_ble_eq_true rfl) rfl rfl (w_part (d := d + 5) (sk_curve hS (k := f.toNat) (by omega)).2.2.2.1 hPsH hPsR cm75 hu (by omega) (by omega) ?_)
              refine r_lret rfl ?_
              rcases bb with k | ⟨k1, k2, k3, k4, k5, k6, k7⟩
              · exact absurd k.1 h44
              · obtain ⟨⟨m1, m2, m3, m4⟩, -⟩ := dr3 _ k3.1 k3.2
                rw [if_neg k2] at hQ
                rw [m1, m2, m3, m4, k4, k5, k6, k7]
                exact hQ z z2 fz fz2 hCF
            · skip
              refine r_ldc2_w rfl ?_
              refine r_goto rfl ?_
              refine r_lret rfl ?_
              rw [if_pos (by rcases bb with k | k; exact k.2; exact absurd h44 k.1)] at hQ; exact hQ z z2 fz fz2 hCF
        · skip
          refine r_if_ne0 rfl ?_
          refine r_ldc2_w rfl ?_
          refine r_lret rfl ?_
          by_cases hb : (0 ≤ f ∧ f < a.1) ∧ 0 ≤ e ∧ (0 ≤ y ∧ y ≤ 1) ∧ (0 ≤ u ∧ u ≤ 3)
          · rw [if_pos hb, List.getElem?_eq_none (by unfold edA; omega)] at hQ; exact hQ z z2 fz fz2 hCF
          · rw [if_neg hb] at hQ; exact hQ z z2 fz fz2 hCF
      · skip
        refine r_if_ne0 rfl ?_
        refine r_ldc2_w rfl ?_
        refine r_lret rfl ?_
        rw [if_neg (fun k => pe k.2.2.2)] at hQ; exact hQ zI zL (frV_r _) (frV_r _) hA0
    · skip
      refine r_if_eq0 rfl ?_
      refine r_ldc2_w rfl ?_
      refine r_lret rfl ?_
      rw [if_neg (fun k => pe k.2.2.1)] at hQ; exact hQ zI zL (frV_r _) (frV_r _) hA0
  · skip
    refine r_if_eq0 rfl ?_
    refine r_ldc2_w rfl ?_
    refine r_lret rfl ?_
    rw [if_neg (fun k => p k.1)] at hQ; exact hQ zI zL (frV_r _) (frV_r _) hA0
