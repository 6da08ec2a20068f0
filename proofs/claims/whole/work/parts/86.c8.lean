/-! THE CLASS: questions about the drawn curve -/
theorem frV_5 {z z2 : ZM} {f : Int} (h0 : 0 ≤ f) (h1 : f < 10) (h : ∀ c, c ≠ fO f.toNat + 5 → z2 c = z c) : frV z2 z := fun c hc => h c (by have := fO_b h0 h1; omega)
theorem fO_5 {f g : Int} {c : Nat} (h0 : fO g.toNat + 7 ≤ c) (h1 : c ≤ fO g.toNat + 10) : c ≠ fO f.toNat + 5 := by unfold fO at *; omega
theorem CF_5 {S : SS} {z zL zL2 : ZM} {a : FA} {f : Int} (hC : CF S z zL a) (hk : FOK a) (h : ∀ c, c ≠ fO f.toNat + 5 → zL2 c = zL c) : CF S z zL2 a := CF_fr hC hk rfl rfl (fun _ _ _ => rfl) (fun g c g0 g1 c0 c1 => h c (fO_5 c0 c1))
set_option maxHeartbeats 4000000 in
theorem c_told {X : PX} {d : Nat} {S : SS} {zI zL : ZM} {Q : PQ} (hS : Sk S) {a : FA} (hA : CF S zI zL a) (hk : FOK a) {f u : Int} (hf : inI f) (hu : inI u) (hDR : DRa a) (hQ : ∀ z z2, frV z zI → frV z2 zL → CF S z z2 a → Q (some (pI (sTol a (idF a) f u))) S z z2) : wpM X (d + 7) fC_told [pR 0, pI f, pI u] S zI zL Q := by
  have hA0 := hA
  obtain ⟨⟨cF0, cF14, cF75⟩, cFf⟩ := hA
  have k10 := hk.1.2
  have k00' := hk.1.1
  unfold sTol at hQ
  refine wp_in (C := c_C_told) (ls := [some (pR 0), some (pI f), some (pI u), none]) rfl rfl rfl rfl rfl ?_
  refine r_aload_n rfl rfl ?_
  refine r_iload_n rfl rfl ?_
  refine r_cV2 rfl (so0 hS) (Nat.le_of_ble_eq_true rfl) rfl rfl (c_exists (d := d + 4) hS hA0 hk hf (fun p q => ?_) (fun p => ?_))
  · skip
    refine r_if_ne1 rfl ?_
    refine r_aload_n rfl rfl ?_
    refine r_getR rfl (so0 hS) (sr0_0 hS) ?_
    refine r_iload_n rfl rfl ?_
    refine r_aald rfl (sw1 hS) (by decide) (by omega) (by omega) (c_F hS p (show f < 10 by omega)).1 ?_
    refine r_astore_n rfl (Nat.le_of_ble_eq_true rfl) ?_
    
    refine r_iload_n rfl rfl ?_
    have ef : 0 ≤ f ∧ f < a.1 := ⟨p, q⟩
    have f10 : f < 10 := by omega
    obtain ⟨rF, rG⟩ := c_F hS p f10
    have hform := sk_form hS (k := f.toNat) (by omega)
    have hfo := hform.1
    obtain ⟨hFH, hkd, hdr, hcv⟩ := cFf f p q
    obtain ⟨hR, hS2, hkb, hk12⟩ := hk.2 f p q
    have e4 := hFH.1
    have hn0 := hR.1
    have hn40 := hR.2.1
    by_cases u0 : u = 0
    · subst u0
      rw [if_neg (fun k => k ⟨ef, by decide⟩)] at hQ
      refine r_tsw rfl hu rfl ?_
      refine r_aload_n rfl rfl ?_
      refine r_getI rfl (by assumption) ?_
      rw [hkd]
      refine r_iret rfl ?_
      rw [if_pos rfl] at hQ; exact hQ zI zL (frV_r _) (frV_r _) hA0
    by_cases u1 : u = 1
    · subst u1
      rw [if_neg (fun k => k ⟨ef, by decide⟩)] at hQ
      refine r_tsw rfl hu rfl ?_
      refine r_aload_n rfl rfl ?_
      refine r_getI rfl (by assumption) ?_
      rw [e4]
      refine r_iret rfl ?_
      rw [if_neg (by decide), if_pos rfl] at hQ; exact hQ zI zL (frV_r _) (frV_r _) hA0
    by_cases u2 : u = 2
    · subst u2
      rw [if_neg (fun k => k ⟨ef, by decide⟩)] at hQ
      refine r_tsw rfl hu rfl ?_
      refine r_aload_n rfl rfl ?_
      refine r_iload_n rfl rfl ?_
      refine r_cV2 rfl (so0 hS) (Nat.le_of_ble_eq_true rfl) rfl rfl (c_curveOf (d := d) hS hA0 hk p q (fun z z2 fz fz2 fd hCF hC h5 => ?_))
      have hC0 := hC
      have hdw := hDR f ef.1 ef.2
      obtain ⟨hcob, -, hcpt, ⟨hco6, -, -⟩, ⟨cr11, cr12, cr13, cr14⟩, ⟨cc0, cc1, cc2, cc3⟩, cc4, cc5, cc6, cc7⟩ := sk_curve hS (k := (f).toNat) (by omega)
      obtain ⟨-, hFH3, -, ⟨ce8, ⟨cne0, cne1⟩, ced⟩, hPsH, hPsR, cm75⟩ := hC
      have hdx := hdw
      obtain ⟨dr1, dr2, dr3, dr4⟩ := hdx
      have cm5 := hPsH.1
      obtain ⟨hb26, hb161⟩ := fO_b ef.1 (show f < 10 by omega)
      
      refine r_getI rfl (by assumption) ?_
      rw [ce8]
      refine r_iret rfl ?_
      rw [if_neg (by decide), if_neg (by decide), if_pos rfl] at hQ; rw [dr1]; exact hQ z z2 fz fz2 hCF
    by_cases u3 : u = 3
    · subst u3
      rw [if_neg (fun k => k ⟨ef, by decide⟩)] at hQ
      refine r_tsw rfl hu rfl ?_
      refine r_aload_n rfl rfl ?_
      refine r_iload_n rfl rfl ?_
      refine r_cV2 rfl (so0 hS) (Nat.le_of_ble_eq_true rfl) rfl rfl (c_curveOf (d := d) hS hA0 hk p q (fun z z2 fz fz2 fd hCF hC h5 => ?_))
      have hC0 := hC
      have hdw := hDR f ef.1 ef.2
      obtain ⟨hcob, -, hcpt, ⟨hco6, -, -⟩, ⟨cr11, cr12, cr13, cr14⟩, ⟨cc0, cc1, cc2, cc3⟩, cc4, cc5, cc6, cc7⟩ := sk_curve hS (k := (f).toNat) (by omega)
      obtain ⟨-, hFH3, -, ⟨ce8, ⟨cne0, cne1⟩, ced⟩, hPsH, hPsR, cm75⟩ := hC
      have hdx := hdw
      obtain ⟨dr1, dr2, dr3, dr4⟩ := hdx
      have cm5 := hPsH.1
      obtain ⟨hb26, hb161⟩ := fO_b ef.1 (show f < 10 by omega)
      
      refine r_getR rfl (by assumption) (by assumption) ?_
      refine r_getI rfl (by assumption) ?_
      rw [cm5]
      refine r_iret rfl ?_
      rw [if_neg (by decide), if_neg (by decide), if_neg (by decide), if_pos rfl] at hQ; rw [dr2]; exact hQ z z2 fz fz2 hCF
    by_cases u4 : u = 4
    · subst u4
      rw [if_neg (fun k => k ⟨ef, by decide⟩)] at hQ
      refine r_tsw rfl hu rfl ?_
      refine r_aload_n rfl rfl ?_
      refine r_aload_n rfl rfl ?_
      refine r_cV2 rfl (so0 hS) (Nat.le_of_ble_eq_true rfl) rfl rfl (c_areaOf (d := d + 2) hS (fO_b p f10).1 hform hFH hR (fun z fz => ?_))
      refine r_iret rfl ?_
      rw [if_neg (by decide), if_neg (by decide), if_neg (by decide), if_neg (by decide), if_pos rfl] at hQ; exact hQ z zL (frV_G5 fz) (frV_r _) (CF_G5 hA0 hk fz (fun _ _ _ _ _ _ => rfl))
    by_cases u5 : u = 5
    · subst u5
      rw [if_neg (fun k => k ⟨ef, by decide⟩)] at hQ
      refine r_tsw rfl hu rfl ?_
      refine r_aload_n rfl rfl ?_
      refine r_iload_n rfl rfl ?_
      refine r_cV2 rfl (so0 hS) (Nat.le_of_ble_eq_true rfl) rfl rfl (c_curveOf (d := d) hS hA0 hk p q (fun z z2 fz fz2 fd hCF hC h5 => ?_))
      have hC0 := hC
      have hdw := hDR f ef.1 ef.2
      obtain ⟨hcob, -, hcpt, ⟨hco6, -, -⟩, ⟨cr11, cr12, cr13, cr14⟩, ⟨cc0, cc1, cc2, cc3⟩, cc4, cc5, cc6, cc7⟩ := sk_curve hS (k := (f).toNat) (by omega)
      obtain ⟨-, hFH3, -, ⟨ce8, ⟨cne0, cne1⟩, ced⟩, hPsH, hPsR, cm75⟩ := hC
      have hdx := hdw
      obtain ⟨dr1, dr2, dr3, dr4⟩ := hdx
      have cm5 := hPsH.1
      obtain ⟨hb26, hb161⟩ := fO_b ef.1 (show f < 10 by omega)
      
      refine r_cV1 rfl (by assumption) (Nat.le_of_ble_eq_true rfl) rfl rfl (w_isSmooth (d := d + 1) hC0 hb26 (c_ring hS) (fun z5 z6 fz5 fz6 => ?_))
      rw [smo_eq hdw]
      have hsm : smoA a f = 0 ∨ smoA a f = 1 := smoS_i
      refine r_if_eq rfl (by show inI (smoA a f); have := hsm; unfold inI; omega) (fun h38 => ?_) (fun h38 => ?_)
      · skip
        refine r_iconst rfl ?_
        refine r_iret rfl ?_
        rw [if_neg (by decide), if_neg (by decide), if_neg (by decide), if_neg (by decide), if_neg (by decide), if_pos rfl] at hQ
        rw [show smoA a f = 0 from h38] at hQ
        exact hQ z5 z6 (frV_t fz (frV_G5 fz5)) (frV_t fz2 (frV_5 p f10 fz6)) (CF_G5 hCF hk fz5 (fun g c g0 g1 c0 c1 => fz6 c (fO_5 c0 c1)))
      · skip
        refine r_iconst rfl ?_
        refine r_goto rfl ?_
        refine r_iret rfl ?_
        rw [if_neg (by decide), if_neg (by decide), if_neg (by decide), if_neg (by decide), if_neg (by decide), if_pos rfl] at hQ
        rw [show smoA a f = 1 from by rcases hsm with k | k; exact absurd k h38; exact k] at hQ
        exact hQ z5 z6 (frV_t fz (frV_G5 fz5)) (frV_t fz2 (frV_5 p f10 fz6)) (CF_G5 hCF hk fz5 (fun g c g0 g1 c0 c1 => fz6 c (fO_5 c0 c1)))
    by_cases u6 : u = 6
    · subst u6
      rw [if_neg (fun k => k ⟨ef, by decide⟩)] at hQ
      refine r_tsw rfl hu rfl ?_
      refine r_aload_n rfl rfl ?_
      refine r_iload_n rfl rfl ?_
      refine r_cV2 rfl (so0 hS) (Nat.le_of_ble_eq_true rfl) rfl rfl (c_curveOf (d := d) hS hA0 hk p q (fun z z2 fz fz2 fd hCF hC h5 => ?_))
      have hC0 := hC
      have hdw := hDR f ef.1 ef.2
      obtain ⟨hcob, -, hcpt, ⟨hco6, -, -⟩, ⟨cr11, cr12, cr13, cr14⟩, ⟨cc0, cc1, cc2, cc3⟩, cc4, cc5, cc6, cc7⟩ := sk_curve hS (k := (f).toNat) (by omega)
      obtain ⟨-, hFH3, -, ⟨ce8, ⟨cne0, cne1⟩, ced⟩, hPsH, hPsR, cm75⟩ := hC
      have hdx := hdw
      obtain ⟨dr1, dr2, dr3, dr4⟩ := hdx
      have cm5 := hPsH.1
      obtain ⟨hb26, hb161⟩ := fO_b ef.1 (show f < 10 by omega)
      
      refine r_cV1 rfl (by assumption) (Nat.le_of_ble_eq_true rfl) rfl rfl (w_countIdle (d := d + 4) hC0 ?_)
      simp only [idl_eq hdw]
      refine r_iret rfl ?_
      rw [if_neg (by decide), if_neg (by decide), if_neg (by decide), if_neg (by decide), if_neg (by decide), if_neg (by decide), if_pos rfl] at hQ; exact hQ z z2 fz fz2 hCF
    by_cases u7 : u = 7
    · subst u7
      rw [if_neg (fun k => k ⟨ef, by decide⟩)] at hQ
      refine r_tsw rfl hu rfl ?_
      refine r_aload_n rfl rfl ?_
      refine r_iload_n rfl rfl ?_
      refine r_cV2 rfl (so0 hS) (Nat.le_of_ble_eq_true rfl) rfl rfl (c_curveOf (d := d) hS hA0 hk p q (fun z z2 fz fz2 fd hCF hC h5 => ?_))
      have hC0 := hC
      have hdw := hDR f ef.1 ef.2
      obtain ⟨hcob, -, hcpt, ⟨hco6, -, -⟩, ⟨cr11, cr12, cr13, cr14⟩, ⟨cc0, cc1, cc2, cc3⟩, cc4, cc5, cc6, cc7⟩ := sk_curve hS (k := (f).toNat) (by omega)
      obtain ⟨-, hFH3, -, ⟨ce8, ⟨cne0, cne1⟩, ced⟩, hPsH, hPsR, cm75⟩ := hC
      have hdx := hdw
      obtain ⟨dr1, dr2, dr3, dr4⟩ := hdx
      have cm5 := hPsH.1
      obtain ⟨hb26, hb161⟩ := fO_b ef.1 (show f < 10 by omega)
      
      refine r_iconst rfl ?_
      refine r_cV2 rfl (by assumption) (Nat.le_of_ble_eq_true rfl) rfl rfl (w_countKind (d := d + 4) hC0 (by unfold inI; omega) ?_)
      rw [kd_eq hdw]
      refine r_iret rfl ?_
      rw [if_neg (by decide), if_neg (by decide), if_neg (by decide), if_neg (by decide), if_neg (by decide), if_neg (by decide), if_neg (by decide)] at hQ; exact hQ z z2 fz fz2 hCF
    by_cases u8 : u = 8
    · subst u8
      rw [if_neg (fun k => k ⟨ef, by decide⟩)] at hQ
      refine r_tsw rfl hu rfl ?_
      refine r_aload_n rfl rfl ?_
      refine r_iload_n rfl rfl ?_
      refine r_cV2 rfl (so0 hS) (Nat.le_of_ble_eq_true rfl) rfl rfl (c_curveOf (d := d) hS hA0 hk p q (fun z z2 fz fz2 fd hCF hC h5 => ?_))
      have hC0 := hC
      have hdw := hDR f ef.1 ef.2
      obtain ⟨hcob, -, hcpt, ⟨hco6, -, -⟩, ⟨cr11, cr12, cr13, cr14⟩, ⟨cc0, cc1, cc2, cc3⟩, cc4, cc5, cc6, cc7⟩ := sk_curve hS (k := (f).toNat) (by omega)
      obtain ⟨-, hFH3, -, ⟨ce8, ⟨cne0, cne1⟩, ced⟩, hPsH, hPsR, cm75⟩ := hC
      have hdx := hdw
      obtain ⟨dr1, dr2, dr3, dr4⟩ := hdx
      have cm5 := hPsH.1
      obtain ⟨hb26, hb161⟩ := fO_b ef.1 (show f < 10 by omega)
      
      refine r_iconst rfl ?_
      refine r_cV2 rfl (by assumption) (Nat.le_of_ble_eq_true rfl) rfl rfl (w_countKind (d := d + 4) hC0 (by unfold inI; omega) ?_)
      rw [kd_eq hdw]
      refine r_iret rfl ?_
      rw [if_neg (by decide), if_neg (by decide), if_neg (by decide), if_neg (by decide), if_neg (by decide), if_neg (by decide), if_neg (by decide)] at hQ; exact hQ z z2 fz fz2 hCF
    by_cases u9 : u = 9
    · subst u9
      rw [if_neg (fun k => k ⟨ef, by decide⟩)] at hQ
      refine r_tsw rfl hu rfl ?_
      refine r_aload_n rfl rfl ?_
      refine r_iload_n rfl rfl ?_
      refine r_cV2 rfl (so0 hS) (Nat.le_of_ble_eq_true rfl) rfl rfl (c_curveOf (d := d) hS hA0 hk p q (fun z z2 fz fz2 fd hCF hC h5 => ?_))
      have hC0 := hC
      have hdw := hDR f ef.1 ef.2
      obtain ⟨hcob, -, hcpt, ⟨hco6, -, -⟩, ⟨cr11, cr12, cr13, cr14⟩, ⟨cc0, cc1, cc2, cc3⟩, cc4, cc5, cc6, cc7⟩ := sk_curve hS (k := (f).toNat) (by omega)
      obtain ⟨-, hFH3, -, ⟨ce8, ⟨cne0, cne1⟩, ced⟩, hPsH, hPsR, cm75⟩ := hC
      have hdx := hdw
      obtain ⟨dr1, dr2, dr3, dr4⟩ := hdx
      have cm5 := hPsH.1
      obtain ⟨hb26, hb161⟩ := fO_b ef.1 (show f < 10 by omega)
      
      refine r_iconst rfl ?_
      refine r_cV2 rfl (by assumption) (Nat.le_of_ble_eq_true rfl) rfl rfl (w_countKind (d := d + 4) hC0 (by unfold inI; omega) ?_)
      rw [kd_eq hdw]
      refine r_iret rfl ?_
      rw [if_neg (by decide), if_neg (by decide), if_neg (by decide), if_neg (by decide), if_neg (by decide), if_neg (by decide), if_neg (by decide)] at hQ; exact hQ z z2 fz fz2 hCF
    refine r_tsw (t := 66) rfl hu ?_ ?_
    · unfold psw
      have e : (u < 0 ∨ 9 < u) := by omega
      exact if_pos e
    refine r_bipush rfl ?_
    refine r_iret rfl ?_
    rw [if_pos (fun k => by omega)] at hQ; exact hQ zI zL (frV_r _) (frV_r _) hA0
  · skip
    refine r_if_ne0 rfl ?_
    refine r_bipush rfl ?_
    refine r_iret rfl ?_
    rw [if_pos (fun k => p k.1)] at hQ; exact hQ zI zL (frV_r _) (frV_r _) hA0
set_option maxHeartbeats 1000000 in
theorem c_idle {X : PX} {d : Nat} {S : SS} {zI zL : ZM} {Q : PQ} (hS : Sk S) {a : FA} (hA : CF S zI zL a) (hk : FOK a) {f i j : Int} (hf : inI f) (hi : inI i) (hj : inI j) (hDR : DRa a) (hQ : ∀ z z2, frV z zI → frV z2 zL → CF S z z2 a → Q (some (pI (sIdl a (idF a) f i j))) S z z2) : wpM X (d + 7) fC_idle [pR 0, pI f, pI i, pI j] S zI zL Q := by
  have hA0 := hA
  obtain ⟨⟨cF0, cF14, cF75⟩, cFf⟩ := hA
  have k10 := hk.1.2
  have k00' := hk.1.1
  unfold sIdl at hQ
  have rest : ∀ k, ((0 ≤ f ∧ f < a.1) ∧ k = fdA a f i j) ∨ (¬ (0 ≤ f ∧ f < a.1) ∧ k = -1) → Run X (d + 6) c_C_idle 5 [some (pR 0), some (pI f), some (pI i), some (pI j), none] [pI k] S zI zL 0 0 Q := by
    intro k hkk
    have bk : -1 ≤ k ∧ k ≤ 40 := by
      rcases hkk with ⟨q1, q2⟩ | ⟨-, q⟩
      · obtain ⟨hR, -, -⟩ := hk.2 f q1.1 q1.2
        have h1 := fnd_in (gN a f) (gI a f) (gJ a f) i j hR.1
        have h2 := hR.2.1
        have q2 : k = fnd (gN a f) (gI a f) (gJ a f) i j := q2
        omega
      · omega
    refine r_istore rfl (Nat.le_of_ble_eq_true rfl) ?_
    refine r_iload rfl rfl ?_
    refine r_iconst rfl ?_
    refine r_icmp_ne rfl (by unfold inI; omega) (by unfold inI; omega) (fun h8 => ?_) (fun h8 => ?_)
    · skip
      obtain ⟨⟨p, q⟩, ekk⟩ : (0 ≤ f ∧ f < a.1) ∧ k = fdA a f i j := by
        rcases hkk with q | ⟨-, q⟩
        · exact q
        · omega
      have ef : 0 ≤ f ∧ f < a.1 := ⟨p, q⟩
      have f10 : f < 10 := by omega
      obtain ⟨rF, rG⟩ := c_F hS p f10
      have hform := sk_form hS (k := f.toNat) (by omega)
      have hfo := hform.1
      obtain ⟨hFH, hkd, hdr, hcv⟩ := cFf f p q
      obtain ⟨hR, hS2, hkb, hk12⟩ := hk.2 f p q
      have e4 := hFH.1
      have hn0 := hR.1
      have hn40 := hR.2.1
      have fi := fnd_in (gN a f) (gI a f) (gJ a f) i j hn0
      have ekk2 : k = fnd (gN a f) (gI a f) (gJ a f) i j := ekk
      rw [← ekk2] at fi
      refine r_aload_n rfl rfl ?_
      refine r_iload_n rfl rfl ?_
      refine r_cV2 rfl (so0 hS) (Nat.le_of_ble_eq_true rfl) rfl rfl (c_curveOf  hS hA0 hk p q (fun z z2 fz fz2 fd hCF hC h5 => ?_))
      have hC0 := hC
      have hdw := hDR f ef.1 ef.2
      obtain ⟨hcob, -, hcpt, ⟨hco6, -, -⟩, ⟨cr11, cr12, cr13, cr14⟩, ⟨cc0, cc1, cc2, cc3⟩, cc4, cc5, cc6, cc7⟩ := sk_curve hS (k := (f).toNat) (by omega)
      obtain ⟨-, hFH3, -, ⟨ce8, ⟨cne0, cne1⟩, ced⟩, hPsH, hPsR, cm75⟩ := hC
      have hdx := hdw
      obtain ⟨dr1, dr2, dr3, dr4⟩ := hdx
      have cm5 := hPsH.1
      obtain ⟨hb26, hb161⟩ := fO_b ef.1 (show f < 10 by omega)
      
      refine r_iload rfl rfl ?_
      refine r_cV2 rfl (by assumption) (Nat.le_of_ble_eq_true rfl) rfl rfl (w_isIdle (d := d + 5) hC0 (t := k) (by omega) ?_)
      rw [idl_eq hdw]
      have hid : idF a f k = 0 ∨ idF a f k = 1 := by unfold idF idlC; split; exact Or.inr rfl; exact Or.inl rfl
      rw [← ekk, if_pos ⟨ef, h8⟩] at hQ
      refine r_if_eq rfl (by show inI (idF a f k); unfold inI; omega) (fun h16 => ?_) (fun h16 => ?_)
      · skip
        refine r_iconst rfl ?_
        refine r_iret rfl ?_
        rw [show idF a f k = 0 from h16] at hQ; exact hQ z z2 fz fz2 hCF
      · skip
        refine r_iconst rfl ?_
        refine r_goto rfl ?_
        refine r_iret rfl ?_
        rw [show idF a f k = 1 from by rcases hid with k | k; exact absurd k h16; exact k] at hQ; exact hQ z z2 fz fz2 hCF
    · skip
      refine r_bipush rfl ?_
      refine r_iret rfl ?_
      rw [if_neg (fun q => by rcases hkk with ⟨-, q2⟩ | ⟨q1, -⟩; exact q.2 (by rw [← q2]; exact h8); exact q1 q.1)] at hQ; exact hQ zI zL (frV_r _) (frV_r _) hA0
  refine wp_in (C := c_C_idle) (ls := [some (pR 0), some (pI f), some (pI i), some (pI j), none]) rfl rfl rfl rfl rfl ?_
  refine r_aload_n rfl rfl ?_
  refine r_iload_n rfl rfl ?_
  refine r_iload_n rfl rfl ?_
  refine r_iload_n rfl rfl ?_
  refine r_cV4 rfl (so0 hS) (Nat.le_of_ble_eq_true rfl) rfl rfl (c_findTerm (d := d + 3) hS hA0 hk hf hi hj (fun p q => ?_) (fun p => ?_))
  · exact rest _ (Or.inl ⟨⟨p, q⟩, rfl⟩)
  · exact rest _ (Or.inr ⟨p, rfl⟩)
