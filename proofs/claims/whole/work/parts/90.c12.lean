/-! THE CLASS: meets, meet, act -/
noncomputable def sMes (a : FA) (f g : Int) : Int := if ¬ ((0 ≤ f ∧ f < a.1) ∧ (0 ≤ g ∧ g < a.1)) then -2 else match sMt a f g with | none => -3 | some ms => ms.1
theorem y_meets2 {X : PX} {d : Nat} {S : SS} {zI zL : ZM} {Q : PQ} (hS : Sk S) {a : FA} (hA : MF zI a) (hk : FOK a) (hcp : CPa a) (h8 : M8a a) {f g : Int} (hf : inI f) (hg : inI g) (hQ : ∀ z z2, frW z zI → frQL z2 zL → Q (some (pI (sMes a f g))) S z z2) : wpM X (d + 8) fM_meets [pR 184, pI f, pI g] S zI zL Q := by
  unfold sMes at hQ
  refine y_meets hS hA hk hcp h8 hf hg (fun q => ?_) (fun q1 q2 q3 z z2 f1 f2 => ?_) (fun q1 q2 ms q3 z z2 f1 f2 => ?_)
  · rw [if_pos q] at hQ; exact hQ zI zL (frW_r _) (frQL_r _)
  · rw [if_neg (fun k => k ⟨q1, q2⟩), q3] at hQ; exact hQ z z2 f1 f2
  · rw [if_neg (fun k => k ⟨q1, q2⟩), q3] at hQ; exact hQ z z2 f1 f2
noncomputable def layA (a : FA) (f g : Int) : Option MTS := laySd (gN a f) (gI a f) (gJ a f) (gV a f) (drwS (gN a f) (gI a f) (gJ a f) (gV a f)) (gN a g) (gI a g) (gJ a g) (gV a g) (drwS (gN a g) (gI a g) (gJ a g) (gV a g))
/-- the class's meets are the reference's -/
def MEa (a : FA) : Prop := ∀ f g, 0 ≤ f → f < a.1 → 0 ≤ g → g < a.1 → (layA a f g = none ∧ sMt a f g = none) ∨ ∃ ms ms2, layA a f g = some ms2 ∧ sMt a f g = some ms ∧ ms2.1 = ms.1 ∧ ∀ t, 0 ≤ t → t < ms.1 → (ms2.2.1 t = ms.2.1 t ∧ ms2.2.2.1 t = ms.2.2.1 t ∧ ms2.2.2.2.1 t = ms.2.2.2.1 t ∧ ms2.2.2.2.2.1 t = ms.2.2.2.2.1 t ∧ ms2.2.2.2.2.2 t = ms.2.2.2.2.2 t) ∧ inI (ms.2.2.2.2.2 t)
theorem c_cr {S : SS} (hS : Sk S) : isCr S := ⟨so13 hS, ⟨so14 hS, ⟨sw15 hS, sw16 hS, sw17 hS, sw18 hS⟩, sr14_0 hS, sr14_1 hS, sr14_2 hS, sr14_3 hS⟩, sw19 hS, ⟨so20 hS, so21 hS, so22 hS⟩, sr13_0 hS, sr13_1 hS, sr13_2 hS, sr13_3 hS, sr13_4 hS⟩
theorem CF_X {S : SS} {z z2 zL zL2 : ZM} {a : FA} (hC : CF S z zL a) (hk : FOK a) (h1 : frXI z2 z) (h2 : frXL zL2 zL) (h14 : z2 14 4 = 128) : CF S z2 zL2 a := CF_fr hC hk (by rw [h1 0 (by decide) (by decide)]) (h14.trans hC.1.2.1.symm) (fun c c0 c1 => h1 c (by omega) (by omega)) (fun f c f0 f1 c0 c1 => h2 c (by have := fO_b f0 f1; omega))
theorem frV_XI {z z2 : ZM} (h : frXI z2 z) : frV z2 z := fun c hc => h c (by omega) (by omega)
theorem frV_XL {z z2 : ZM} (h : frXL z2 z) : frV z2 z := fun c hc => h c (by omega)
set_option maxHeartbeats 1000000 in
theorem c_meets {X : PX} {d : Nat} {S : SS} {zI zL : ZM} {Q : PQ} (hS : Sk S) {a : FA} (hA : CF S zI zL a) (hk : FOK a) {f g : Int} (hf : inI f) (hg : inI g) (hME : MEa a) (hQ : ∀ z z2, frV z zI → frV z2 zL → CF S z z2 a → Q (some (pI (sMes a f g))) S z z2) : wpM X (d + 7) fC_meets [pR 0, pI f, pI g] S zI zL Q := by
  have hA0 := hA
  obtain ⟨⟨cF0, cF14, cF75⟩, cFf⟩ := hA
  have k10 := hk.1.2
  have k00' := hk.1.1
  unfold sMes at hQ
  refine wp_in (C := c_C_meets) (ls := [some (pR 0), some (pI f), some (pI g)]) rfl rfl rfl rfl rfl ?_
  refine r_aload_n rfl rfl ?_
  refine r_iload_n rfl rfl ?_
  refine r_cV2 rfl (so0 hS) (Nat.le_of_ble_eq_true rfl) rfl rfl (c_exists (d := d + 4) hS hA0 hk hf (fun p q => ?_) (fun p => ?_))
  · skip
    refine r_if_eq1 rfl ?_
    refine r_aload_n rfl rfl ?_
    refine r_iload_n rfl rfl ?_
    refine r_cV2 rfl (so0 hS) (Nat.le_of_ble_eq_true rfl) rfl rfl (c_exists (d := d + 4) hS hA0 hk hg (fun p2 q2 => ?_) (fun p => ?_))
    · skip
      refine r_if_ne1 rfl ?_
      have ef : 0 ≤ f ∧ f < a.1 := ⟨p, q⟩
      have f10f : f < 10 := by omega
      obtain ⟨rFf, rGf⟩ := c_F hS p f10f
      have hformf := sk_form hS (k := (f).toNat) (by omega)
      have hfof := hformf.1
      obtain ⟨hFHf, hkdf, hdrf, hcvf⟩ := cFf f p q
      obtain ⟨hRf, hSfs, hkbf, hktf⟩ := hk.2 f p q
      have eg : 0 ≤ g ∧ g < a.1 := ⟨p2, q2⟩
      have f10g : g < 10 := by omega
      obtain ⟨rFg, rGg⟩ := c_F hS p2 f10g
      have hformg := sk_form hS (k := (g).toNat) (by omega)
      have hfog := hformg.1
      obtain ⟨hFHg, hkdg, hdrg, hcvg⟩ := cFf g p2 q2
      obtain ⟨hRg, hSgs, hkbg, hktg⟩ := hk.2 g p2 q2
      have hb26f := (fO_b p f10f).1
      have hb26g := (fO_b p2 f10g).1
      obtain ⟨hcobf, -⟩ := sk_curve hS (k := f.toNat) (by omega)
      obtain ⟨hcobg, -⟩ := sk_curve hS (k := g.toNat) (by omega)
      rw [if_neg (fun k => k ⟨ef, eg⟩)] at hQ
      refine r_aload_n rfl rfl ?_
      refine r_getR rfl (so0 hS) (sr0_7 hS) ?_
      refine r_aload_n rfl rfl ?_
      refine r_iload_n rfl rfl ?_
      refine r_cV2 rfl (so0 hS) (Nat.le_of_ble_eq_true rfl) rfl rfl (c_curveOf (d := d) hS hA0 hk p q (fun z z2 fz fz2 fd hCF hC h5 => ?_))
      refine r_aload_n rfl rfl ?_
      refine r_iload_n rfl rfl ?_
      refine r_cV2 rfl (so0 hS) (Nat.le_of_ble_eq_true rfl) rfl rfl (c_curveOf (d := d) hS hCF hk p2 q2 (fun z3 z4 fz3 fz4 fd2 hCF2 hC2 h52 => ?_))
      have hCf := (hCF2.2 f p q).2.2.2 (fd2 f p f10f h5)
      refine r_cV3 rfl (so13 hS) (Nat.le_of_ble_eq_true rfl) rfl rfl (w_lay (c_cr hS) hCf hC2 hb26f hb26g hCF2.1.2.1 (fun hl z5 z6 f5 f6 f14 => ?_) (fun ms2 hl z5 z6 f5 f6 hMH => ?_))
      · skip
        refine r_if_eq0 rfl ?_
        refine r_bipush rfl ?_
        refine r_iret rfl ?_
        rcases hME f g p q p2 q2 with ⟨m1, m2⟩ | ⟨ms, ms3, m1, m2, m3, m4⟩
        · rw [m2] at hQ
          exact hQ z5 z6 (frV_t fz (frV_t fz3 (frV_XI f5))) (frV_t fz2 (frV_t fz4 (frV_XL f6))) (CF_X hCF2 hk f5 f6 f14)
        · exact absurd (hl.symm.trans m1) (by simp)
      · skip
        refine r_if_eq1 rfl ?_
        refine r_aload_n rfl rfl ?_
        refine r_getR rfl (so0 hS) (sr0_7 hS) ?_
        refine r_getR rfl (so13 hS) (sr13_0 hS) ?_
        refine r_getI rfl (so14 hS) ?_
        rw [hMH.1.1]
        refine r_goto rfl ?_
        refine r_iret rfl ?_
        rcases hME f g p q p2 q2 with ⟨m1, m2⟩ | ⟨ms, ms3, m1, m2, m3, m4⟩
        · exact absurd (m1.symm.trans hl) (by simp)
        · have e0 : ms2 = ms3 := Option.some.inj (hl.symm.trans m1)
          rw [m2] at hQ
          rw [e0, m3]
          exact hQ z5 z6 (frV_t fz (frV_t fz3 (frV_XI f5))) (frV_t fz2 (frV_t fz4 (frV_XL f6))) (CF_X hCF2 hk f5 f6 hMH.2.2.2.2)
    · skip
      refine r_if_ne0 rfl ?_
      refine r_bipush rfl ?_
      refine r_iret rfl ?_
      rw [if_pos (fun k => p k.2)] at hQ; exact hQ zI zL (frV_r _) (frV_r _) hA0
  · skip
    refine r_if_eq0 rfl ?_
    refine r_bipush rfl ?_
    refine r_iret rfl ?_
    rw [if_pos (fun k => p k.1)] at hQ; exact hQ zI zL (frV_r _) (frV_r _) hA0
set_option maxHeartbeats 2000000 in
theorem c_meet {X : PX} {d : Nat} {S : SS} {zI zL : ZM} {Q : PQ} (hS : Sk S) {a : FA} (hA : CF S zI zL a) (hk : FOK a) {f g i u : Int} (hf : inI f) (hg : inI g) (hi : inI i) (hu : inI u) (hME : MEa a) (hQ : ∀ z z2, frV z zI → frV z2 zL → CF S z z2 a → Q (some (pL (sMee a f g i u))) S z z2) : wpM X (d + 7) fC_meet [pR 0, pI f, pI g, pI i, pI u] S zI zL Q := by
  have hA0 := hA
  obtain ⟨⟨cF0, cF14, cF75⟩, cFf⟩ := hA
  have k10 := hk.1.2
  have k00' := hk.1.1
  unfold sMee at hQ
  refine wp_in (C := c_C_meet) (ls := [some (pR 0), some (pI f), some (pI g), some (pI i), some (pI u)]) rfl rfl rfl rfl rfl ?_
  refine r_aload_n rfl rfl ?_
  refine r_iload_n rfl rfl ?_
  refine r_cV2 rfl (so0 hS) (Nat.le_of_ble_eq_true rfl) rfl rfl (c_exists (d := d + 4) hS hA0 hk hf (fun p q => ?_) (fun p => ?_))
  · skip
    refine r_if_eq1 rfl ?_
    refine r_aload_n rfl rfl ?_
    refine r_iload_n rfl rfl ?_
    refine r_cV2 rfl (so0 hS) (Nat.le_of_ble_eq_true rfl) rfl rfl (c_exists (d := d + 4) hS hA0 hk hg (fun p2 q2 => ?_) (fun p => ?_))
    · skip
      refine r_if_eq1 rfl ?_
      refine r_iload rfl rfl ?_
      refine r_iconst rfl ?_
      refine r_iconst rfl ?_
      refine r_cS3 rfl (by decide) (Nat.le_of_ble_eq_true rfl) rfl rfl (c_within (d := d + 5) hu (by unfold inI; omega) (by unfold inI; omega) (fun u0 u1 => ?_) (fun pe => ?_))
      · skip
        refine r_if_ne1 rfl ?_
        have ef : 0 ≤ f ∧ f < a.1 := ⟨p, q⟩
        have f10f : f < 10 := by omega
        obtain ⟨rFf, rGf⟩ := c_F hS p f10f
        have hformf := sk_form hS (k := (f).toNat) (by omega)
        have hfof := hformf.1
        obtain ⟨hFHf, hkdf, hdrf, hcvf⟩ := cFf f p q
        obtain ⟨hRf, hSfs, hkbf, hktf⟩ := hk.2 f p q
        have eg : 0 ≤ g ∧ g < a.1 := ⟨p2, q2⟩
        have f10g : g < 10 := by omega
        obtain ⟨rFg, rGg⟩ := c_F hS p2 f10g
        have hformg := sk_form hS (k := (g).toNat) (by omega)
        have hfog := hformg.1
        obtain ⟨hFHg, hkdg, hdrg, hcvg⟩ := cFf g p2 q2
        obtain ⟨hRg, hSgs, hkbg, hktg⟩ := hk.2 g p2 q2
        have hb26f := (fO_b p f10f).1
        have hb26g := (fO_b p2 f10g).1
        obtain ⟨hcobf, -⟩ := sk_curve hS (k := f.toNat) (by omega)
        obtain ⟨hcobg, -⟩ := sk_curve hS (k := g.toNat) (by omega)
        
        refine r_aload_n rfl rfl ?_
        refine r_getR rfl (so0 hS) (sr0_7 hS) ?_
        refine r_aload_n rfl rfl ?_
        refine r_iload_n rfl rfl ?_
        refine r_cV2 rfl (so0 hS) (Nat.le_of_ble_eq_true rfl) rfl rfl (c_curveOf (d := d) hS hA0 hk p q (fun z z2 fz fz2 fd hCF hC h5 => ?_))
        refine r_aload_n rfl rfl ?_
        refine r_iload_n rfl rfl ?_
        refine r_cV2 rfl (so0 hS) (Nat.le_of_ble_eq_true rfl) rfl rfl (c_curveOf (d := d) hS hCF hk p2 q2 (fun z3 z4 fz3 fz4 fd2 hCF2 hC2 h52 => ?_))
        have hCf := (hCF2.2 f p q).2.2.2 (fd2 f p f10f h5)
        refine r_cV3 rfl (so13 hS) (Nat.le_of_ble_eq_true rfl) rfl rfl (w_lay (c_cr hS) hCf hC2 hb26f hb26g hCF2.1.2.1 (fun hl z5 z6 f5 f6 f14 => ?_) (fun ms2 hl z5 z6 f5 f6 hMH => ?_))
        · skip
          refine r_if_eq0 rfl ?_
          refine r_ldc2_w rfl ?_
          refine r_lret rfl ?_
          have hQz := hQ z5 z6 (frV_t fz (frV_t fz3 (frV_XI f5))) (frV_t fz2 (frV_t fz4 (frV_XL f6))) (CF_X hCF2 hk f5 f6 f14)
          rcases hME f g p q p2 q2 with ⟨m1, m2⟩ | ⟨ms, ms3, m1, m2, m3, m4⟩
          · rw [m2] at hQz
            by_cases hb : (0 ≤ f ∧ f < a.1) ∧ (0 ≤ g ∧ g < a.1) ∧ 0 ≤ i ∧ (0 ≤ u ∧ u ≤ 4)
            · rw [if_pos hb] at hQz; exact hQz
            · rw [if_neg hb] at hQz; exact hQz
          · exact absurd (hl.symm.trans m1) (by simp)
        · skip
          refine r_if_eq1 rfl ?_
          obtain ⟨ms, m2, m3, m4⟩ : ∃ ms, sMt a f g = some ms ∧ ms2.1 = ms.1 ∧ ∀ t, 0 ≤ t → t < ms.1 → (ms2.2.1 t = ms.2.1 t ∧ ms2.2.2.1 t = ms.2.2.1 t ∧ ms2.2.2.2.1 t = ms.2.2.2.1 t ∧ ms2.2.2.2.2.1 t = ms.2.2.2.2.1 t ∧ ms2.2.2.2.2.2 t = ms.2.2.2.2.2 t) ∧ inI (ms.2.2.2.2.2 t) := by
            rcases hME f g p q p2 q2 with ⟨m1, m2⟩ | ⟨ms, ms3, m1, m2, m3, m4⟩
            · exact absurd (m1.symm.trans hl) (by simp)
            · have e0 : ms2 = ms3 := Option.some.inj (hl.symm.trans m1)
              rw [e0]; exact ⟨ms, m2, m3, m4⟩
          obtain ⟨hM1, hM2, hM3, hM4, hM5⟩ := hMH
          have m128 : ms2.1 ≤ 128 := hM3
          have mm0 : 0 ≤ ms2.1 := hM2.1
          have fza := frV_t fz (frV_t fz3 (frV_XI f5))
          have fzb := frV_t fz2 (frV_t fz4 (frV_XL f6))
          have hCFf := CF_X hCF2 hk f5 f6 hM5
          refine r_iload_n rfl rfl ?_
          refine r_iconst rfl ?_
          refine r_aload_n rfl rfl ?_
          refine r_getR rfl (so0 hS) (sr0_7 hS) ?_
          refine r_getR rfl (so13 hS) (sr13_0 hS) ?_
          refine r_getI rfl (so14 hS) ?_
          rw [hM1.1]
          refine r_iconst rfl ?_
          refine r_isub rfl ?_
          refine r_cS3 rfl (by decide) (Nat.le_of_ble_eq_true rfl) rfl rfl (c_within (d := d + 5) hi (by unfold inI; omega) (by unfold inI; omega) (fun i0 i1 => ?_) (fun pe => ?_))
          · skip
            refine r_if_ne1 rfl ?_
            obtain ⟨⟨n1', n2', n3', n4', n5'⟩, n6'⟩ := m4 i i0 (by omega)
            rw [if_pos ⟨ef, eg, i0, u0, u1⟩, m2] at hQ
            have hQ : ∀ z z2, frV z zI → frV z2 zL → CF S z z2 a → Q (some (pL (if i < ms.1 then mtW ms i u else NOv))) S z z2 := hQ
            rw [if_pos (by omega)] at hQ
            unfold mtW at hQ
            refine r_iload rfl rfl ?_
            refine r_iconst rfl ?_
            refine r_icmp_ne rfl hu (by unfold inI; omega) (fun h39 => ?_) (fun h39 => ?_)
            · skip
              refine r_aload_n rfl rfl ?_
              refine r_getR rfl (so0 hS) (sr0_7 hS) ?_
              refine r_getR rfl (so13 hS) (sr13_0 hS) ?_
              refine r_iload_n rfl rfl ?_
              refine r_iload rfl rfl ?_
              refine r_cV3 rfl (so14 hS) (Nat.le_of_ble_eq_true rfl) rfl rfl (w_part (d := d + 5) (c_cr hS).2.1 hM1 hM2 hM3 hu i0 (by omega) ?_)
              refine r_lret rfl ?_
              rw [if_neg h39] at hQ; rw [n1', n2', n3', n4']; exact hQ z5 z6 fza fzb hCFf
            · skip
              refine r_aload_n rfl rfl ?_
              refine r_getR rfl (so0 hS) (sr0_7 hS) ?_
              refine r_getR rfl (so13 hS) (sr13_1 hS) ?_
              refine r_iload_n rfl rfl ?_
              refine r_iald rfl (sw19 hS) (by omega) (by omega) ?_
              rw [hM4 i i0 (by omega), n5']
              refine r_i2l rfl n6' ?_
              refine r_goto rfl ?_
              refine r_lret rfl ?_
              rw [if_pos h39] at hQ; exact hQ z5 z6 fza fzb hCFf
          · skip
            refine r_if_ne0 rfl ?_
            refine r_ldc2_w rfl ?_
            refine r_lret rfl ?_
            have hQz := hQ z5 z6 fza fzb hCFf
            rw [m2] at hQz
            by_cases hb : (0 ≤ f ∧ f < a.1) ∧ (0 ≤ g ∧ g < a.1) ∧ 0 ≤ i ∧ (0 ≤ u ∧ u ≤ 4)
            · rw [if_pos hb] at hQz
              have hQz : Q (some (pL (if i < ms.1 then mtW ms i u else NOv))) S z5 z6 := hQz
              rw [if_neg (by omega)] at hQz
              exact hQz
            · rw [if_neg hb] at hQz; exact hQz
      · skip
        refine r_if_ne0 rfl ?_
        refine r_ldc2_w rfl ?_
        refine r_lret rfl ?_
        rw [if_neg (fun k => pe k.2.2.2)] at hQ; exact hQ zI zL (frV_r _) (frV_r _) hA0
    · skip
      refine r_if_eq0 rfl ?_
      refine r_ldc2_w rfl ?_
      refine r_lret rfl ?_
      rw [if_neg (fun k => p k.2.1)] at hQ; exact hQ zI zL (frV_r _) (frV_r _) hA0
  · skip
    refine r_if_eq0 rfl ?_
    refine r_ldc2_w rfl ?_
    refine r_lret rfl ?_
    rw [if_neg (fun k => p k.1)] at hQ; exact hQ zI zL (frV_r _) (frV_r _) hA0
/-! act -/
abbrev acR (a : FA) (f c : Int) : Prop := (0 ≤ f ∧ f < a.1) ∧ (0 ≤ c ∧ c ≤ 2)
def nAct (a : FA) (f c : Int) : List Int := if acR a f c then (if c = 0 then lieT (gK a f) else if c = 1 then weiT (gK a f) else metT (gK a f)) else []
def sAct (a : FA) (f c x : Int) : Int := if acR a f c then (if c = 0 then lieV (gK a f) (gN a f) x else if c = 1 then weiV (gK a f) (gN a f) x else meeV (gK a f) (gN a f) f x) else 0
theorem y_act2 {X : PX} {d : Nat} {S : SS} {zI zL : ZM} {Q : PQ} (hS : Sk S) {a : FA} (hA : MF zI a) (hk : FOK a) {f c x : Int} (hf : inI f) (hc : inI c) (hQ : ∀ z, frU z zI → TrH z 184 216 50 (nAct a f c) → Q (some (pI (sAct a f c x))) S z zL) : wpM X (d + 9) fM_act [pR 184, pI f, pI c, pI x] S zI zL Q := by
  unfold nAct sAct at hQ
  refine y_act hS hA hk hf hc (fun q z f1 f2 => ?_) (fun q1 q2 z f1 f2 => ?_)
  · simp only [if_neg q] at hQ; exact hQ z f1 f2
  · have q : acR a f c := ⟨q1, q2⟩
    simp only [if_pos q] at hQ; exact hQ z f1 f2
theorem metT_l (K : Int) : (metT K).length ≤ 20 := by
  have h1 := lieT_l K
  have h2 := weiT_l K
  have h3 := meeT_l K
  unfold metT
  split
  · rw [List.length_cons, List.length_append]; omega
  · split
    · rw [List.length_cons, List.length_append]; omega
    · omega
theorem nAct_l (a : FA) (f c : Int) : (nAct a f c).length ≤ 40 := by
  have h1 := lieT_l (gK a f)
  have h2 := weiT_l (gK a f)
  have h3 := metT_l (gK a f)
  unfold nAct
  split
  · split
    · omega
    · split <;> omega
  · show 0 ≤ 40; decide
def frAc (z' z : ZM) : Prop := ∀ c, c ≠ 24 → c ≠ 25 → z' c = z c
set_option maxHeartbeats 2000000 in
theorem c_act {X : PX} {d : Nat} {S : SS} {zI zL : ZM} {Q : PQ} (hS : Sk S) {a : FA} (hA : CF S zI zL a) (hk : FOK a) (hX : xsOK X) {f c x : Int} (hf : inI f) (hc : inI c) (hQ : ∀ z, frAc z zI → TrH z 24 25 1 (nAct a f c) → Q (some (pI (sAct a f c x))) S z zL) : wpM X (d + 9) fC_act [pR 0, pI f, pI c, pI x] S zI zL Q := by
  have hA1 : CF S (zput zI 24 1 0) zL a := CF_fr hA hk (by rw [zput_row (by decide)]) (by rw [zput_row (by decide)]) (fun c c0 c1 => zput_row (by omega)) (fun _ _ _ _ _ _ => rfl)
  have hA0 := hA1
  have hz1 : ∀ c, c ≠ 24 → zput zI 24 1 0 c = zI c := fun c hc => zput_row hc
  have hz2 : zput zI 24 1 0 24 1 = 0 := zput_at
  obtain ⟨z1, e1⟩ : ∃ z1, z1 = zput zI 24 1 0 := ⟨_, rfl⟩
  rw [← e1] at hA1 hA0 hz1 hz2
  clear hA
  have hA := hA1
  obtain ⟨⟨cF0, cF14, cF75⟩, cFf⟩ := hA
  have k10 := hk.1.2
  have k00' := hk.1.1
  refine wp_in (C := c_C_act) (ls := [some (pR 0), some (pI f), some (pI c), some (pI x)]) rfl rfl rfl rfl rfl ?_
  refine r_aload_n rfl rfl ?_
  refine r_getR rfl (so0 hS) (sr0_9 hS) ?_
  refine r_iconst rfl ?_
  refine r_putI rfl (so24 hS) ?_
  rw [← e1]
  refine r_aload_n rfl rfl ?_
  refine r_iload_n rfl rfl ?_
  refine r_cV2 rfl (so0 hS) (Nat.le_of_ble_eq_true rfl) rfl rfl (c_exists (d := d + 6) hS hA0 hk hf (fun p q => ?_) (fun p => ?_))
  · skip
    refine r_if_eq1 rfl ?_
    refine r_iload_n rfl rfl ?_
    refine r_iconst rfl ?_
    refine r_iconst rfl ?_
    refine r_cS3 rfl (by decide) (Nat.le_of_ble_eq_true rfl) rfl rfl (c_within (d := d + 7) hc (by unfold inI; omega) (by unfold inI; omega) (fun c0 c1 => ?_) (fun pe => ?_))
    · skip
      refine r_if_ne1 rfl ?_
      have ef : 0 ≤ f ∧ f < a.1 := ⟨p, q⟩
      have f10f : f < 10 := by omega
      obtain ⟨rFf, rGf⟩ := c_F hS p f10f
      have hformf := sk_form hS (k := (f).toNat) (by omega)
      have hfof := hformf.1
      obtain ⟨hFHf, hkdf, hdrf, hcvf⟩ := cFf f p q
      obtain ⟨hRf, hSfs, hkb, hktf⟩ := hk.2 f p q
      obtain ⟨hb26f, hb161f⟩ := fO_b p f10f
      refine r_aload_n rfl rfl ?_
      refine r_getR rfl (so0 hS) (sr0_9 hS) ?_
      refine r_iload_n rfl rfl ?_
      refine r_putI rfl (so24 hS) ?_
      refine r_aload_n rfl rfl ?_
      refine r_getR rfl (so0 hS) (sr0_9 hS) ?_
      refine r_aload_n rfl rfl ?_
      refine r_getR rfl (so0 hS) (sr0_0 hS) ?_
      refine r_iload_n rfl rfl ?_
      refine r_aald rfl (sw1 hS) (by decide) (by omega) (by omega) rFf ?_
      refine r_getI rfl (by assumption) ?_
      rw [zput_row (show fO f.toNat ≠ 24 by omega), hkdf]
      refine r_putI rfl (so24 hS) ?_
      refine r_aload_n rfl rfl ?_
      refine r_getR rfl (so0 hS) (sr0_9 hS) ?_
      refine r_aload_n rfl rfl ?_
      refine r_getR rfl (so0 hS) (sr0_0 hS) ?_
      refine r_iload_n rfl rfl ?_
      refine r_aald rfl (sw1 hS) (by decide) (by omega) (by omega) rFf ?_
      refine r_getI rfl (by assumption) ?_
      rw [zput_row (show fO f.toNat ≠ 24 by omega), zput_row (show fO f.toNat ≠ 24 by omega), hFHf.1]
      refine r_putI rfl (so24 hS) ?_
      obtain ⟨z9, e9⟩ : ∃ z9, z9 = zput (zput (zput z1 24 2 f) 24 3 (gK a f)) 24 4 (gN a f) := ⟨_, rfl⟩
      have hz9 : ∀ c, c ≠ 24 → c ≠ 25 → z9 c = zI c := fun c hc _ => by rw [e9, zput_row hc, zput_row hc, zput_row hc]; exact hz1 c hc
      have hK3 : z9 24 3 = gK a f := by rw [e9, zput_off (by decide), zput_at]
      have hAc : AcH z9 f (gK a f) (gN a f) := ⟨by rw [e9, zput_off (by decide), zput_off (by decide), zput_at], hK3, by rw [e9, zput_at]⟩
      have hTr : TrH z9 24 25 1 [] := ⟨by rw [e9, zput_off (by decide), zput_off (by decide), zput_off (by decide)]; exact hz2, fun j hj => absurd hj (by simp)⟩
      rw [← e9]
      by_cases c0 : c = 0
      · subst c0
        refine r_aload_n rfl rfl ?_
        refine r_getR rfl (so0 hS) (sr0_9 hS) ?_
        refine r_aload_n rfl rfl ?_
        refine r_getR rfl (so0 hS) (sr0_9 hS) ?_
        refine r_iload_n rfl rfl ?_
        refine r_cV2 rfl (so24 hS) (Nat.le_of_ble_eq_true rfl) rfl rfl (w_bodyL (d := d + 7) hS hX hK3 ⟨hkb.1, hkb.2⟩ ?_)
        refine r_iload_n rfl rfl ?_
        refine r_iconst rfl ?_
        refine r_cS4 rfl (by decide) (Nat.le_of_ble_eq_true rfl) rfl rfl (w_rbL (d := d + 4) hS hX hAc hkb hTr (by decide) ⟨Int.le_refl _, by decide⟩ (fun z7 fz7 hT7 => ?_))
        refine r_iret rfl ?_
        have q : acR a f 0 := ⟨ef, by decide, by decide⟩
        unfold nAct sAct at hQ
        simp (decide := true) only [if_pos q, ↓reduceIte] at hQ
        exact hQ z7 (fun c a b => (fz7.1 c a b).trans (hz9 c a b)) hT7
      by_cases c1 : c = 1
      · subst c1
        refine r_aload_n rfl rfl ?_
        refine r_getR rfl (so0 hS) (sr0_9 hS) ?_
        refine r_aload_n rfl rfl ?_
        refine r_getR rfl (so0 hS) (sr0_9 hS) ?_
        refine r_iload_n rfl rfl ?_
        refine r_cV2 rfl (so24 hS) (Nat.le_of_ble_eq_true rfl) rfl rfl (w_bodyW (d := d + 7) hS hX hK3 ⟨hkb.1, hkb.2⟩ ?_)
        refine r_iload_n rfl rfl ?_
        refine r_iconst rfl ?_
        refine r_cS4 rfl (by decide) (Nat.le_of_ble_eq_true rfl) rfl rfl (w_rbW (d := d + 2) hS hX hAc hkb hTr (by decide) ⟨Int.le_refl _, by decide⟩ (fun z7 fz7 hT7 => ?_))
        refine r_iret rfl ?_
        have q : acR a f 1 := ⟨ef, by decide, by decide⟩
        unfold nAct sAct at hQ
        simp (decide := true) only [if_pos q, ↓reduceIte] at hQ
        exact hQ z7 (fun c a b => (fz7.1 c a b).trans (hz9 c a b)) hT7
      have c2 : c = 2 := by omega
      subst c2
      refine r_aload_n rfl rfl ?_
      refine r_getR rfl (so0 hS) (sr0_9 hS) ?_
      refine r_aload_n rfl rfl ?_
      refine r_getR rfl (so0 hS) (sr0_9 hS) ?_
      refine r_iload_n rfl rfl ?_
      refine r_cV2 rfl (so24 hS) (Nat.le_of_ble_eq_true rfl) rfl rfl (w_bodyM (d := d + 7) hS hX hK3 ⟨hkb.1, hkb.2⟩ ?_)
      refine r_iload_n rfl rfl ?_
      refine r_iconst rfl ?_
      refine r_cS4 rfl (by decide) (Nat.le_of_ble_eq_true rfl) rfl rfl (w_rbM (d := d) hS hX hAc hkb hTr (by decide) ⟨Int.le_refl _, by decide⟩ (fun z7 fz7 hT7 => ?_))
      refine r_iret rfl ?_
      have q : acR a f 2 := ⟨ef, by decide, by decide⟩
      unfold nAct sAct at hQ
      simp (decide := true) only [if_pos q, ↓reduceIte] at hQ
      exact hQ z7 (fun c a b => (fz7.1 c a b).trans (hz9 c a b)) hT7
    · skip
      refine r_if_ne0 rfl ?_
      refine r_iconst rfl ?_
      refine r_iret rfl ?_
      unfold nAct sAct at hQ
      have q : ¬ acR a f c := fun k => pe k.2
      simp only [if_neg q] at hQ
      exact hQ z1 (fun c a _ => hz1 c a) ⟨hz2, fun j hj => absurd hj (by simp)⟩
  · skip
    refine r_if_eq0 rfl ?_
    refine r_iconst rfl ?_
    refine r_iret rfl ?_
    unfold nAct sAct at hQ
    have q : ¬ acR a f c := fun k => p k.1
    simp only [if_neg q] at hQ
    exact hQ z1 (fun c a _ => hz1 c a) ⟨hz2, fun j hj => absurd hj (by simp)⟩
