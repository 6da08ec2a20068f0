/-! THE CLASS: write, check, amount -/
def sWri (a : FA) (f : Int) : Int := if 0 ≤ f ∧ f < a.1 then prN a f else -2
def nWrN (a : FA) (f rn : Int) : Int := if 0 ≤ f ∧ f < a.1 then prN a f else rn
def nWrR (a : FA) (f : Int) (r : Int → Int) : Int → Int := if 0 ≤ f ∧ f < a.1 then prA a f else r
theorem y_write2 {X : PX} {d : Nat} {S : SS} {zI zL : ZM} {Q : PQ} (hS : Sk S) {a : FA} (hA : MF zI a) (hk : FOK a) (hcp : CPa a) {rn : Int} {r : Int → Int} (hr : MRw zI zL rn r) {f : Int} (hf : inI f) (hQ : ∀ z z2, frZ z zI → frZL z2 zL → MRw z z2 (nWrN a f rn) (nWrR a f r) → Q (some (pI (sWri a f))) S z z2) : wpM X (d + 7) fM_write [pR 184, pI f] S zI zL Q := by
  unfold sWri nWrN nWrR at hQ
  refine y_write hS hA hk hcp hf (fun q => ?_) (fun q z z2 f1 f2 f3 => ?_)
  · simp only [if_neg q] at hQ; exact hQ zI zL ⟨fun _ _ _ _ => rfl, fun _ _ _ _ _ _ => rfl⟩ ⟨fun _ _ _ _ _ _ => rfl, fun _ _ => rfl⟩ hr
  · simp only [if_pos q] at hQ; exact hQ z z2 f1 f2 f3
def frWi (z' z : ZM) : Prop := (∀ c, (c = 4 ∨ c = 24 ∨ c = 25 ∨ 176 ≤ c) → z' c = z c) ∧ ∀ k, k ≠ 11 → z' 0 k = z 0 k
def frWl (z' z : ZM) : Prop := ∀ c, (c = 0 ∨ c = 24 ∨ c = 25 ∨ 176 ≤ c) → z' c = z c
theorem cNb {S : SS} {z z2 : ZM} {h : Nat} {n : Int} {I J V : Int → Int} {s : CS} (hC : CvT S z z2 h n I J V s) : (0 ≤ cNE s ∧ cNE s ≤ 114) ∧ (0 ≤ cM s ∧ cM s ≤ 75) := ⟨hC.2.2.2.1.2.1, hC.2.2.2.2.2.1.1, hC.2.2.2.2.2.2⟩
set_option maxHeartbeats 1000000 in
theorem c_write {X : PX} {d : Nat} {S : SS} {zI zL : ZM} {Q : PQ} (hS : Sk S) {a : FA} (hA : CF S zI zL a) (hk : FOK a) {rn : Int} {r : Int → Int} (hr : CRw zI zL rn r) {f : Int} (hf : inI f) (hDR : DRa a) (hQ : ∀ z z2, frWi z zI → frWl z2 zL → CF S z z2 a → CRw z z2 (nWrN a f rn) (nWrR a f r) → (0 ≤ nWrN a f rn ∧ nWrN a f rn ≤ 756 ∨ nWrN a f rn = rn) → Q (some (pI (sWri a f))) S z z2) : wpM X (d + 7) fC_write [pR 0, pI f] S zI zL Q := by
  have hA0 := hA
  obtain ⟨⟨cF0, cF14, cF75⟩, cFf⟩ := hA
  have k10 := hk.1.2
  have k00' := hk.1.1
  unfold sWri nWrN nWrR at hQ
  refine wp_in (C := c_C_write) (ls := [some (pR 0), some (pI f), none, none]) rfl rfl rfl rfl rfl ?_
  refine r_aload_n rfl rfl ?_
  refine r_iload_n rfl rfl ?_
  refine r_cV2 rfl (so0 hS) (Nat.le_of_ble_eq_true rfl) rfl rfl (c_exists (d := d + 4) hS hA0 hk hf (fun p q => ?_) (fun p => ?_))
  · skip
    refine r_if_ne1 rfl ?_
    have ef : 0 ≤ f ∧ f < a.1 := ⟨p, q⟩
    have f10 : f < 10 := by omega
    obtain ⟨rF, rG⟩ := c_F hS p f10
    have hform := sk_form hS (k := f.toNat) (by omega)
    have hfo := hform.1
    obtain ⟨hFH, hkd, hdr, hcv⟩ := cFf f p q
    obtain ⟨hR, hS2, hkb, hk12⟩ := hk.2 f p q
    have e4 := hFH.1
    have hn0 := hR.1
    have hn40 := hR.2.1
    simp only [if_pos ef] at hQ
    refine r_aload_n rfl rfl ?_
    refine r_iload_n rfl rfl ?_
    refine r_cV2 rfl (so0 hS) (Nat.le_of_ble_eq_true rfl) rfl rfl (c_curveOf hS hA0 hk p q (fun z z2 fz fz2 fd hCF hC h5 => ?_))
    have hC0 := hC
    have hdw := hDR f ef.1 ef.2
    obtain ⟨hcob, -, hcpt, ⟨hco6, -, -⟩, ⟨cr11, cr12, cr13, cr14⟩, ⟨cc0, cc1, cc2, cc3⟩, cc4, cc5, cc6, cc7⟩ := sk_curve hS (k := (f).toNat) (by omega)
    obtain ⟨-, hFH3, -, ⟨ce8, ⟨cne0, cne1⟩, ced⟩, hPsH, hPsR, cm75⟩ := hC
    have hdx := hdw
    obtain ⟨dr1, dr2, dr3, dr4⟩ := hdx
    have cm5 := hPsH.1
    obtain ⟨hb26, hb161⟩ := fO_b ef.1 (show f < 10 by omega)
    have hcn := cNb hC0
    have eN : prN a f = 4 * (cNE (drwS (gN a f) (gI a f) (gJ a f) (gV a f)) + cM (drwS (gN a f) (gI a f) (gJ a f) (gV a f))) := by unfold prN edA crA; omega
    refine r_astore_n rfl (Nat.le_of_ble_eq_true rfl) ?_
    refine r_aload_n rfl rfl ?_
    refine r_aload_n rfl rfl ?_
    refine r_cV1 rfl (by assumption) (Nat.le_of_ble_eq_true rfl) rfl rfl (w_countRows (d := d + 5) hC0 ?_)
    refine r_putI rfl (so0 hS) ?_
    have hz3 : ∀ c, c ≠ 0 → zput z 0 11 (4 * (cNE (drwS (gN a f) (gI a f) (gJ a f) (gV a f)) + cM (drwS (gN a f) (gI a f) (gJ a f) (gV a f)))) c = z c := fun c hc => zput_row hc
    obtain ⟨zn, hzn⟩ : ∃ zn, zn = zput z 0 11 (4 * (cNE (drwS (gN a f) (gI a f) (gJ a f) (gV a f)) + cM (drwS (gN a f) (gI a f) (gJ a f) (gV a f)))) := ⟨_, rfl⟩
    have zn11 : zn 0 11 = prN a f := by rw [hzn, zput_at, eN]
    have znr : ∀ c, c ≠ 0 → zn c = z c := fun c hc => by rw [hzn]; exact zput_row hc
    have zn0 : ∀ k, k ≠ 11 → zn 0 k = z 0 k := fun k hk => by rw [hzn]; exact zput_off hk
    rw [← hzn]
    have lp : ∀ k : Int, k ≤ prN a f → 0 ≤ k → ∀ z3 : ZM, (∀ c, c ≠ 4 → z3 c = z2 c) → (∀ t, 0 ≤ t → t < k → z3 4 t = prA a f t) → Run X (d + 6) c_C_write 16 [some (pR 0), some (pI f), some (pR (fO f.toNat + 4)), some (pI k)] [] S zn z3 0 0 Q := by
      refine loop_up _ (prN a f) (fun k hk1 ih k0 z3 hz4 hrow => ?_)
      have hC3 : CvT S zn z3 (fO f.toNat) (gN a f) (gI a f) (gJ a f) (gV a f) (drwS (gN a f) (gI a f) (gJ a f) (gV a f)) := CvH_fr hC0 (fun c c0 c1 => znr c (by omega)) (fun c c0 c1 => hz4 c (by omega))
      refine r_iload_n rfl rfl ?_
      refine r_aload_n rfl rfl ?_
      refine r_getI rfl (so0 hS) ?_
      rw [zn11]
      refine r_icmp_ge rfl (by unfold inI; omega) (by unfold inI; omega) (fun h19 => ?_) (fun h19 => ?_)
      · skip
        refine r_aload_n rfl rfl ?_
        refine r_getI rfl (so0 hS) ?_
        rw [zn11]
        refine r_iret rfl ?_
        refine hQ zn z3 ⟨fun c hc => (znr c (by omega)).trans (fz c (by omega)), fun k hk => by rw [zn0 k hk, fz 0 (Or.inl rfl)]⟩ (fun c hc => (hz4 c (by omega)).trans (fz2 c (by omega))) (CF_fr hCF hk ?_ (by rw [znr 14 (by decide)]) (fun c c0 c1 => znr c (by omega)) (fun g c g0 g1 c0 c1 => hz4 c (by have := fO_b g0 g1; omega))) ⟨zn11, fun t t0 t1 => hrow t t0 (by omega)⟩ (Or.inl (by omega))
        exact zn0 10 (by decide)
      · skip
        refine r_aload_n rfl rfl ?_
        refine r_getR rfl (so0 hS) (sr0_3 hS) ?_
        refine r_iload_n rfl rfl ?_
        refine r_aload_n rfl rfl ?_
        refine r_iload_n rfl rfl ?_
        refine r_cV2 rfl (by assumption) (Nat.le_of_ble_eq_true rfl) rfl rfl (w_proofNumber (d := d + 2) hC3 ⟨k0, by omega⟩ ?_)
        rw [prf_eq hdw k0 (by unfold prN edA crA at *; omega)]
        refine r_last rfl (sw4 hS) (by omega) (by omega) ?_
        refine r_iinc rfl rfl ?_
        refine r_goto rfl ?_
        refine ih (by omega) (by omega) _ (fun c hc => by rw [zput_row hc]; exact hz4 c hc) (fun t t0 t1 => ?_)
        by_cases e : t = k
        · rw [e, zput_at]; rfl
        · rw [zput_off e]; exact hrow t t0 (by omega)
    refine r_iconst rfl ?_
    refine r_istore_n rfl (Nat.le_of_ble_eq_true rfl) ?_
    exact lp 0 (by omega) (Int.le_refl _) z2 (fun _ _ => rfl) (fun t t0 t1 => by omega)
  · skip
    refine r_if_ne0 rfl ?_
    refine r_bipush rfl ?_
    refine r_iret rfl ?_
    simp only [if_neg p] at hQ; exact hQ zI zL ⟨fun _ _ => rfl, fun _ _ => rfl⟩ (fun _ _ => rfl) hA0 hr (by simp)
set_option maxHeartbeats 1000000 in
theorem c_check {X : PX} {d : Nat} {S : SS} {zI zL : ZM} {Q : PQ} (hS : Sk S) {a : FA} (hA : CF S zI zL a) (hk : FOK a) {rn : Int} {r : Int → Int} (hr : CRw zI zL rn r) (hn : 0 ≤ rn ∧ rn ≤ 756) (hrb : ∀ k, 0 ≤ k → k < rn → inL (r k)) {f : Int} (hf : inI f) (hDR : DRa a) (hQ : ∀ z z2, frV z zI → frV z2 zL → CF S z z2 a → Q (some (pI (sChk a rn r f))) S z z2) : wpM X (d + 7) fC_check [pR 0, pI f] S zI zL Q := by
  have hA0 := hA
  obtain ⟨⟨cF0, cF14, cF75⟩, cFf⟩ := hA
  have k10 := hk.1.2
  have k00' := hk.1.1
  unfold sChk at hQ
  refine wp_in (C := c_C_check) (ls := [some (pR 0), some (pI f), none, none, none, none]) rfl rfl rfl rfl rfl ?_
  refine r_aload_n rfl rfl ?_
  refine r_iload_n rfl rfl ?_
  refine r_cV2 rfl (so0 hS) (Nat.le_of_ble_eq_true rfl) rfl rfl (c_exists (d := d + 4) hS hA0 hk hf (fun p q => ?_) (fun p => ?_))
  · skip
    refine r_if_ne1 rfl ?_
    have ef : 0 ≤ f ∧ f < a.1 := ⟨p, q⟩
    have f10 : f < 10 := by omega
    obtain ⟨rF, rG⟩ := c_F hS p f10
    have hform := sk_form hS (k := f.toNat) (by omega)
    have hfo := hform.1
    obtain ⟨hFH, hkd, hdr, hcv⟩ := cFf f p q
    obtain ⟨hR, hS2, hkb, hk12⟩ := hk.2 f p q
    have e4 := hFH.1
    have hn0 := hR.1
    have hn40 := hR.2.1
    rw [if_neg (fun k => k ef)] at hQ
    refine r_aload_n rfl rfl ?_
    refine r_iload_n rfl rfl ?_
    refine r_cV2 rfl (so0 hS) (Nat.le_of_ble_eq_true rfl) rfl rfl (c_curveOf hS hA0 hk p q (fun z z2 fz fz2 fd hCF hC h5 => ?_))
    have hC0 := hC
    have hdw := hDR f ef.1 ef.2
    obtain ⟨hcob, -, hcpt, ⟨hco6, -, -⟩, ⟨cr11, cr12, cr13, cr14⟩, ⟨cc0, cc1, cc2, cc3⟩, cc4, cc5, cc6, cc7⟩ := sk_curve hS (k := (f).toNat) (by omega)
    obtain ⟨-, hFH3, -, ⟨ce8, ⟨cne0, cne1⟩, ced⟩, hPsH, hPsR, cm75⟩ := hC
    have hdx := hdw
    obtain ⟨dr1, dr2, dr3, dr4⟩ := hdx
    have cm5 := hPsH.1
    obtain ⟨hb26, hb161⟩ := fO_b ef.1 (show f < 10 by omega)
    have hcn := cNb hC0
    have eN : 4 * (cNE (drwS (gN a f) (gI a f) (gJ a f) (gV a f)) + cM (drwS (gN a f) (gI a f) (gJ a f) (gV a f))) = prN a f := by unfold prN edA crA; omega
    have e11 : z 0 11 = rn := by rw [fz 0 (Or.inl rfl)]; exact hr.1
    have erw : ∀ k, 0 ≤ k → k < rn → z2 4 k = r k := fun k k0 k1 => by rw [fz2 4 (by omega)]; exact hr.2 k k0 k1
    refine r_astore_n rfl (Nat.le_of_ble_eq_true rfl) ?_
    refine r_aload_n rfl rfl ?_
    refine r_cV1 rfl (by assumption) (Nat.le_of_ble_eq_true rfl) rfl rfl (w_countRows (d := d + 5) hC0 ?_)
    rw [eN]
    refine r_istore_n rfl (Nat.le_of_ble_eq_true rfl) ?_
    refine r_iload_n rfl rfl ?_
    refine r_aload_n rfl rfl ?_
    refine r_getI rfl (so0 hS) ?_
    rw [e11]
    refine r_cS2 rfl (by decide) (Nat.le_of_ble_eq_true rfl) rfl rfl (w_min (d := d + 5) (by unfold inI; omega) (by unfold inI; omega) ?_)
    refine r_istore rfl (Nat.le_of_ble_eq_true rfl) ?_
    refine r_iconst rfl ?_
    refine r_istore rfl (Nat.le_of_ble_eq_true rfl) ?_
    have lp : ∀ k : Int, k ≤ min (prN a f) rn → 0 ≤ k → srch (fun k => decide (r k ≠ prA a f k)) (min (prN a f) rn - k).toNat k = srch (fun k => decide (r k ≠ prA a f k)) (min (prN a f) rn).toNat 0 → Run X (d + 6) c_C_check 20 [some (pR 0), some (pI f), some (pR (fO f.toNat + 4)), some (pI (prN a f)), some (pI (min (prN a f) rn)), some (pI k)] [] S z z2 0 0 Q := by
      refine loop_up _ (min (prN a f) rn) (fun k hk1 ih k0 hs => ?_)
      refine r_iload rfl rfl ?_
      refine r_iload rfl rfl ?_
      refine r_icmp_ge rfl (by unfold inI; omega) (by unfold inI; omega) (fun h22 => ?_) (fun h22 => ?_)
      · skip
        refine r_iload_n rfl rfl ?_
        refine r_aload_n rfl rfl ?_
        refine r_getI rfl (so0 hS) ?_
        rw [e11]
        refine r_icmp_ne rfl (by unfold inI; omega) (by unfold inI; omega) (fun h39 => ?_) (fun h39 => ?_)
        · skip
          refine r_iload rfl rfl ?_
          refine r_iret rfl ?_
          have e1 : srch (fun k => decide (r k ≠ prA a f k)) (min (prN a f) rn).toNat 0 = -1 := by rw [← hs]; exact srch_end (by omega)
          rw [if_neg (fun q => q e1), if_neg (by omega)] at hQ
          exact hQ z z2 fz fz2 hCF
        · skip
          refine r_iconst rfl ?_
          refine r_goto rfl ?_
          refine r_iret rfl ?_
          have e1 : srch (fun k => decide (r k ≠ prA a f k)) (min (prN a f) rn).toNat 0 = -1 := by rw [← hs]; exact srch_end (by omega)
          rw [if_neg (fun q => q e1), if_pos (by omega)] at hQ
          exact hQ z z2 fz fz2 hCF
      · skip
        refine r_aload_n rfl rfl ?_
        refine r_getR rfl (so0 hS) (sr0_3 hS) ?_
        refine r_iload rfl rfl ?_
        refine r_lald rfl (sw4 hS) (by omega) (by omega) ?_
        rw [erw k k0 (by omega)]
        refine r_aload_n rfl rfl ?_
        refine r_iload rfl rfl ?_
        refine r_cV2 rfl (by assumption) (Nat.le_of_ble_eq_true rfl) rfl rfl (w_proofNumber (d := d + 2) hC0 ⟨k0, by omega⟩ ?_)
        rw [prf_eq hdw k0 (by unfold prN edA crA at *; omega)]
        have pab := prA_b hk ef k0 (show k < prN a f by omega)
        have hrk := hrb k k0 (by omega)
        refine r_l_eq rfl rfl hrk (by show inL (prA a f k); unfold inL; omega) (fun h31 => ?_) (fun h31 => ?_)
        · skip
          refine r_iinc rfl rfl ?_
          refine r_goto rfl ?_
          exact ih (by omega) (by omega) (by rw [← srch_miss (by omega) (by simp only [decide_eq_false_iff_not]; exact fun q => q h31)]; exact hs)
        · skip
          refine r_iload rfl rfl ?_
          refine r_iret rfl ?_
          rw [srch_hit (by omega) (by simp only [decide_eq_true_eq]; exact h31)] at hs
          rw [if_pos (by omega), ← hs] at hQ
          exact hQ z z2 fz fz2 hCF
    exact lp 0 (by omega) (Int.le_refl _) (by rw [Int.sub_zero])
  · skip
    refine r_if_ne0 rfl ?_
    refine r_bipush rfl ?_
    refine r_iret rfl ?_
    rw [if_pos p] at hQ; exact hQ zI zL (frV_r _) (frV_r _) hA0
set_option maxHeartbeats 2000000 in
theorem c_amount {X : PX} {d : Nat} {S : SS} {zI zL : ZM} {Q : PQ} (hS : Sk S) {a : FA} (hA : CF S zI zL a) (hk : FOK a) {f g : Int} (hf : inI f) (hg : inI g) (hQ : ∀ z, frV z zI → CF S z zL a → Q (some (pI (sAmt a f g))) S z zL) : wpM X (d + 5) fC_amount [pR 0, pI f, pI g] S zI zL Q := by
  have hA0 := hA
  obtain ⟨⟨cF0, cF14, cF75⟩, cFf⟩ := hA
  have k10 := hk.1.2
  have k00' := hk.1.1
  unfold sAmt at hQ
  have hQ9 := hQ
  obtain ⟨hD9, hD11⟩ := c_draft hS
  have main : (0 ≤ f ∧ f < a.1) → (0 ≤ g ∧ g < a.1) → 0 < gN a f → 0 < gN a g → amX a f g = false → DR (sumOf a f g) 400 → ∀ t : Int, t ≤ 81 → 0 ≤ t → ∀ (z : ZM) (s : Int × (Int → Int) × (Int → Int)), (∀ c, c ≠ 5 → c ≠ 6 → c ≠ 7 → c ≠ 8 → c ≠ 10 → c ≠ 12 → z c = zI c) → DH z 11 (sumOf a f g) → RGH z 5 s.1 s.2.1 s.2.2 → 0 ≤ s.1 → s.1 ≤ t → rgI s.1 s.2.1 s.2.2 → selW (fun p => (sumOf a f g p).isSome) (fun p => p / 9) (fun p => p % 9) (81 - t).toNat t s = selS (fun p => (sumOf a f g p).isSome) 81 (fun p => p / 9) (fun p => p % 9) → Run X (d + 4) c_C_amount 44 [some (pR 0), some (pI f), some (pI g), some (pI t)] [] S z zL 0 0 Q := by
    intro ef' eg' pf pg hx hdr4
    obtain ⟨p, q⟩ := ef'
    obtain ⟨p2, q2⟩ := eg'
    have ef : 0 ≤ f ∧ f < a.1 := ⟨p, q⟩
    have f10f : f < 10 := by omega
    obtain ⟨rFf, rGf⟩ := c_F hS p f10f
    have hformf := sk_form hS (k := (f).toNat) (by omega)
    have hfof := hformf.1
    obtain ⟨hFHf, hkdf, hdrf, hcvf⟩ := cFf f p q
    obtain ⟨hRf, hSfs, hkbf, hktf⟩ := hk.2 f p q
    have eg : 0 ≤ g ∧ g < a.1 := ⟨p2, q2⟩
    have f10g : g < 10 := by omega
    obtain ⟨rFg, rGg⟩ := c_F hS p2 f10g
    have hformg := sk_form hS (k := (g).toNat) (by omega)
    have hfog := hformg.1
    obtain ⟨hFHg, hkdg, hdrg, hcvg⟩ := cFf g p2 q2
    obtain ⟨hRg, hSgs, hkbg, hktg⟩ := hk.2 g p2 q2
    have hb26f := (fO_b p f10f).1
    have hb26g := (fO_b p2 f10g).1
    refine loop_up _ 81 (fun t ht ih h0 z s hz hDH hrh hs0 hst hsr hs => ?_)
    obtain ⟨s1, sA, sB⟩ := s
    have hs0 : 0 ≤ s1 := hs0
    have hst : s1 ≤ t := hst
    have t9 := td9 h0
    have m9 := tm9 h0
    have hrng := c_ring hS
    refine r_iload_n rfl rfl ?_
    refine r_bipush rfl ?_
    refine r_icmp_ge rfl (by unfold inI; omega) (by unfold inI; omega) (fun h46 => ?_) (fun h46 => ?_)
    · skip
      refine r_aload_n rfl rfl ?_
      refine r_getR rfl (so0 hS) (sr0_4 hS) ?_
      refine r_cV1 rfl (so5 hS) (Nat.le_of_ble_eq_true rfl) rfl rfl (w_rarea (d := d + 1) hrng hrh ⟨hs0, by omega, hsr⟩ (fun z3 hz3 => ?_))
      have hFf3 : FH z3 (fO f.toNat) (gN a f) (gI a f) (gJ a f) (gV a f) := FH_fr hFHf (fun c c0 c1 => (hz3 c (by omega)).trans (hz c (by omega) (by omega) (by omega) (by omega) (by omega) (by omega)))
      have hFg3 : FH z3 (fO g.toNat) (gN a g) (gI a g) (gJ a g) (gV a g) := FH_fr hFHg (fun c c0 c1 => (hz3 c (by omega)).trans (hz c (by omega) (by omega) (by omega) (by omega) (by omega) (by omega)))
      rw [selW_e (by omega)] at hs
      have eR : areaR s1 sA sB = amR a f g := by
        unfold amR areaS
        rw [← hs]
      rw [eR]
      have ab1 := areaF_b hRf
      have ab2 := areaF_b hRg
      have ab3 := amR_b a f g
      refine r_istore_n rfl (Nat.le_of_ble_eq_true rfl) ?_
      refine r_iload_n rfl rfl ?_
      refine r_aload_n rfl rfl ?_
      refine r_aload_n rfl rfl ?_
      refine r_getR rfl (so0 hS) (sr0_0 hS) ?_
      refine r_iload_n rfl rfl ?_
      refine r_aald rfl (sw1 hS) (by decide) (by omega) (by omega) rFf ?_
      refine r_cV2 rfl (so0 hS) (Nat.le_of_ble_eq_true rfl) rfl rfl (c_areaOf hS hb26f hformf hFf3 hRf (fun z5 hz5 => ?_))
      refine r_isub rfl ?_
      refine r_aload_n rfl rfl ?_
      refine r_aload_n rfl rfl ?_
      refine r_getR rfl (so0 hS) (sr0_0 hS) ?_
      refine r_iload_n rfl rfl ?_
      refine r_aald rfl (sw1 hS) (by decide) (by omega) (by omega) rFg ?_
      refine r_cV2 rfl (so0 hS) (Nat.le_of_ble_eq_true rfl) rfl rfl (c_areaOf hS hb26g hformg (FH_fr hFg3 (fun c c0 c1 => hz5 c (by omega) (by omega) (by omega) (by omega))) hRg (fun z6 hz6 => ?_))
      refine r_isub rfl ?_
      refine r_iconst rfl ?_
      refine r_idiv rfl (by unfold inI; omega) (by unfold inI; omega) (by omega) ?_
      refine r_iret rfl ?_
      have zz : ∀ c, c ≠ 5 → c ≠ 6 → c ≠ 7 → c ≠ 8 → c ≠ 10 → c ≠ 12 → z6 c = zI c := fun c c5 c6 c7 c8 c10 c12 => (hz6 c c5 c6 c7 c8).trans ((hz5 c c5 c6 c7 c8).trans ((hz3 c c8).trans (hz c c5 c6 c7 c8 c10 c12)))
      rw [if_neg (fun k => k ⟨ef, eg⟩), if_neg (by omega), if_neg (by rw [hx]; decide)] at hQ9
      refine hQ9 z6 (fun c hc => zz c (by omega) (by omega) (by omega) (by omega) (by omega) (by omega)) (CF_fr hA0 hk ?_ ?_ (fun c c0 c1 => zz c (by omega) (by omega) (by omega) (by omega) (by omega) (by omega)) (fun _ _ _ _ _ _ => rfl))
      · rw [zz 0 (by decide) (by decide) (by decide) (by decide) (by decide) (by decide)]
      · rw [zz 14 (by decide) (by decide) (by decide) (by decide) (by decide) (by decide)]
    · skip
      refine r_aload_n rfl rfl ?_
      refine r_getR rfl (so0 hS) (sr0_6 hS) ?_
      refine r_iload_n rfl rfl ?_
      refine r_cV2 rfl (so11 hS) (Nat.le_of_ble_eq_true rfl) rfl rfl (w_has (d := d + 3) hD11 hDH hdr4 (by decide) h0 (by omega) ?_)
      refine r_if_eq rfl (by split <;> (unfold inI; omega)) (fun h51 => ?_) (fun h51 => ?_)
      · skip
        refine r_iinc rfl rfl ?_
        refine r_goto rfl ?_
        refine ih (by omega) (by omega) z (s1, sA, sB) hz hDH hrh hs0 (by show s1 ≤ t + 1; omega) hsr ?_
        rw [selW_s (by omega), if_neg (fun k => by have k2 : (sumOf a f g t).isSome = true := k; rw [k2] at h51; exact absurd h51 (by decide))] at hs
        exact hs
      · skip
        refine r_aload_n rfl rfl ?_
        refine r_getR rfl (so0 hS) (sr0_4 hS) ?_
        refine r_iload_n rfl rfl ?_
        refine r_bipush rfl ?_
        refine r_idiv rfl (by unfold inI; omega) (by unfold inI; omega) (by omega) ?_
        refine r_iload_n rfl rfl ?_
        refine r_bipush rfl ?_
        refine r_irem rfl (by unfold inI; omega) (by unfold inI; omega) (by omega) ?_
        rw [t9, m9]
        refine r_cV3 rfl (so5 hS) (Nat.le_of_ble_eq_true rfl) rfl rfl (w_radd (d := d + 3) hrng hrh hs0 (by omega) (fun z3 hz3 => ?_))
        refine r_iinc rfl rfl ?_
        refine r_goto rfl ?_
        have k2 : (sumOf a f g t).isSome = true := by
          cases hh : (sumOf a f g t).isSome with
          | true => rfl
          | false => rw [hh] at h51; exact absurd rfl h51
        refine ih (by omega) (by omega) z3 (s1 + 1, updF sA s1 (t / 9), updF sB s1 (t % 9)) (fun c c5 c6 c7 c8 c10 c12 => (hz3.1 c c5 c6 c7).trans (hz c c5 c6 c7 c8 c10 c12)) (DH_fr1 hDH (hz3.1 12 (by decide) (by decide) (by decide))) hz3.2 (by show 0 ≤ s1 + 1; omega) (by show s1 + 1 ≤ t + 1; omega) (rgI_up hsr (by omega) (by omega)) ?_
        rw [selW_s (by omega), if_pos k2] at hs
        exact hs
  refine wp_in (C := c_C_amount) (ls := [some (pR 0), some (pI f), some (pI g), none]) rfl rfl rfl rfl rfl ?_
  refine r_aload_n rfl rfl ?_
  refine r_iload_n rfl rfl ?_
  refine r_cV2 rfl (so0 hS) (Nat.le_of_ble_eq_true rfl) rfl rfl (c_exists (d := d + 2) hS hA0 hk hf (fun p q => ?_) (fun p => ?_))
  · skip
    refine r_if_eq1 rfl ?_
    refine r_aload_n rfl rfl ?_
    refine r_iload_n rfl rfl ?_
    refine r_cV2 rfl (so0 hS) (Nat.le_of_ble_eq_true rfl) rfl rfl (c_exists (d := d + 2) hS hA0 hk hg (fun p2 q2 => ?_) (fun p => ?_))
    · skip
      refine r_if_ne1 rfl ?_
      have ef : 0 ≤ f ∧ f < a.1 := ⟨p, q⟩
      have f10f : f < 10 := by omega
      obtain ⟨rFf, rGf⟩ := c_F hS p f10f
      have hformf := sk_form hS (k := (f).toNat) (by omega)
      have hfof := hformf.1
      obtain ⟨hFHf, hkdf, hdrf, hcvf⟩ := cFf f p q
      obtain ⟨hRf, hSfs, hkbf, hktf⟩ := hk.2 f p q
      have eg : 0 ≤ g ∧ g < a.1 := ⟨p2, q2⟩
      have f10g : g < 10 := by omega
      obtain ⟨rFg, rGg⟩ := c_F hS p2 f10g
      have hformg := sk_form hS (k := (g).toNat) (by omega)
      have hfog := hformg.1
      obtain ⟨hFHg, hkdg, hdrg, hcvg⟩ := cFf g p2 q2
      obtain ⟨hRg, hSgs, hkbg, hktg⟩ := hk.2 g p2 q2
      have hb26f := (fO_b p f10f).1
      have hb26g := (fO_b p2 f10g).1
      have nf0 := hRf.1
      have ng0 := hRg.1
      rw [if_neg (fun k => k ⟨ef, eg⟩)] at hQ
      refine r_aload_n rfl rfl ?_
      refine r_iload_n rfl rfl ?_
      refine r_cV2 rfl (so0 hS) (Nat.le_of_ble_eq_true rfl) rfl rfl (c_hasTerms (d := d + 1) hS hA0 hk hf (fun _ _ tf => ?_) (fun tf => ?_))
      · skip
        refine r_if_eq1 rfl ?_
        refine r_aload_n rfl rfl ?_
        refine r_iload_n rfl rfl ?_
        refine r_cV2 rfl (so0 hS) (Nat.le_of_ble_eq_true rfl) rfl rfl (c_hasTerms (d := d + 1) hS hA0 hk hg (fun _ _ tg => ?_) (fun tg => ?_))
        · skip
          refine r_if_ne1 rfl ?_
          refine r_aload_n rfl rfl ?_
          refine r_getR rfl (so0 hS) (sr0_5 hS) ?_
          refine r_aload_n rfl rfl ?_
          refine r_getR rfl (so0 hS) (sr0_0 hS) ?_
          refine r_iload_n rfl rfl ?_
          refine r_aald rfl (sw1 hS) (by decide) (by omega) (by omega) rFf ?_
          refine r_cV2 rfl (so9 hS) (Nat.le_of_ble_eq_true rfl) rfl rfl (w_load (d := d + 1) hformf hFHf hRf hD9 (by omega) (fun z hz => ?_))
          have hfz := frD2_q (Or.inl rfl) hz.1
          rw [if_neg (by omega)] at hQ
          refine r_aload_n rfl rfl ?_
          refine r_getR rfl (so0 hS) (sr0_6 hS) ?_
          refine r_aload_n rfl rfl ?_
          refine r_getR rfl (so0 hS) (sr0_5 hS) ?_
          refine r_aload_n rfl rfl ?_
          refine r_getR rfl (so0 hS) (sr0_0 hS) ?_
          refine r_iload_n rfl rfl ?_
          refine r_aald rfl (sw1 hS) (by decide) (by omega) (by omega) rFg ?_
          refine r_cV3 rfl (so11 hS) (Nat.le_of_ble_eq_true rfl) rfl rfl (w_addUp (B := 400) hformg (FH_D2 hFHg hb26g hfz) hRg hD11 hD9 (by decide) (by omega) hz.2 (DR_l hRf) (by decide) (by decide) (fun hb z2 hz2 => ?_) (fun hb z2 hz2 => ?_))
          · skip
            refine r_if_ne0 rfl ?_
            refine r_bipush rfl ?_
            refine r_iret rfl ?_
            rw [if_pos (show amX a f g = true from hb)] at hQ; exact hQ z2 (fun c hc => by rw [hz2 c (by omega), hz.1 c (by omega)]) (CF_D2 hA0 hk (frD2_t hfz (frD2_q (Or.inr rfl) hz2)))
          · skip
            refine r_if_ne1 rfl ?_
            refine r_aload_n rfl rfl ?_
            refine r_getR rfl (so0 hS) (sr0_4 hS) ?_
            refine r_cV1 rfl (so5 hS) (Nat.le_of_ble_eq_true rfl) rfl rfl (w_rclear (d := d + 3) (c_ring hS) ?_)
            refine r_iconst rfl ?_
            refine r_istore_n rfl (Nat.le_of_ble_eq_true rfl) ?_
            exact main ef eg tf tg hb (DR_sum hRg (DR_l hRf)) 0 (by decide) (Int.le_refl _) _ (0, fun _ => 0, fun _ => 0) (fun c c5 c6 c7 c8 c10 c12 => by rw [zput_row c5, hz2.1 c (by omega), hz.1 c (by omega)]) (DH_fr1 hz2.2 (zput_row (by decide))) ⟨zput_at, fun t t0 t1 => absurd t1 (by show ¬ t < 0; omega)⟩ (Int.le_refl _) (Int.le_refl _) (fun t t0 t1 => absurd t1 (by show ¬ t < 0; omega)) (by rw [Int.sub_zero]; rfl)
        · skip
          refine r_if_ne0 rfl ?_
          refine r_bipush rfl ?_
          refine r_iret rfl ?_
          rw [if_pos (by omega)] at hQ; exact hQ zI (frV_r _) hA0
      · skip
        refine r_if_eq0 rfl ?_
        refine r_bipush rfl ?_
        refine r_iret rfl ?_
        rw [if_pos (by omega)] at hQ; exact hQ zI (frV_r _) hA0
    · skip
      refine r_if_ne0 rfl ?_
      refine r_bipush rfl ?_
      refine r_iret rfl ?_
      rw [if_pos (fun k => p k.2)] at hQ; exact hQ zI (frV_r _) hA0
  · skip
    refine r_if_eq0 rfl ?_
    refine r_bipush rfl ?_
    refine r_iret rfl ?_
    rw [if_pos (fun k => p k.1)] at hQ; exact hQ zI (frV_r _) hA0
