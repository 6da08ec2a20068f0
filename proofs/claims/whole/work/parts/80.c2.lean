/-! THE CLASS: curves drawn, forms opened, changed -/
def frVa (z' z : ZM) : Prop := (∀ c, (c = 4 ∨ c = 24 ∨ c = 25 ∨ 176 ≤ c) → z' c = z c) ∧ ∀ k, k ≠ 10 → z' 0 k = z 0 k
theorem frVa_r (z : ZM) : frVa z z := ⟨fun _ _ => rfl, fun _ _ => rfl⟩
theorem frVa_t {z z2 z3 : ZM} (h1 : frVa z2 z) (h2 : frVa z3 z2) : frVa z3 z := ⟨fun c hc => (h2.1 c hc).trans (h1.1 c hc), fun k hk => (h2.2 k hk).trans (h1.2 k hk)⟩
theorem frVa_V {z z2 : ZM} (h : frV z2 z) : frVa z2 z := ⟨fun c hc => h c (by omega), fun k _ => by rw [h 0 (Or.inl rfl)]⟩
def frDr (z' z : ZM) : Prop := ∀ g : Int, 0 ≤ g → g < 10 → z (fO g.toNat) 5 = 1 → z' (fO g.toNat) 5 = 1
theorem frDr_r (z : ZM) : frDr z z := fun _ _ _ h => h
set_option maxHeartbeats 1000000 in
theorem c_curveOf {X : PX} {d : Nat} {S : SS} {zI zL : ZM} {Q : PQ} (hS : Sk S) {a : FA} (hA : CF S zI zL a) (hk : FOK a) {f : Int} (h0 : 0 ≤ f) (h1 : f < a.1) (hQ : ∀ z z2, frV z zI → frV z2 zL → frDr z zI → CF S z z2 a → CvT S z z2 (fO f.toNat) (gN a f) (gI a f) (gJ a f) (gV a f) (drwS (gN a f) (gI a f) (gJ a f) (gV a f)) → z (fO f.toNat) 5 = 1 → Q (some (pR (fO f.toNat + 4))) S z z2) : wpM X (d + 6) fC_curveOf [pR 0, pI f] S zI zL Q := by
  have hA0 := hA
  obtain ⟨⟨cF0, cF14, cF75⟩, cFf⟩ := hA
  have k10 := hk.1.2
  have k00' := hk.1.1
  have p := h0
  have q := h1
  have ef : 0 ≤ f ∧ f < a.1 := ⟨p, q⟩
  have f10 : f < 10 := by omega
  obtain ⟨rF, rG⟩ := c_F hS p f10
  have hform := sk_form hS (k := f.toNat) (by omega)
  have hfo := hform.1
  obtain ⟨hFH, hkd, hdr, hcv⟩ := cFf f p q
  obtain ⟨hR, hS2, hkb, hk12⟩ := hk.2 f p q
  have e4 := hFH.1
  have hn0 := hR.1
  have hn40 := hR.2.1
  obtain ⟨hb26, hb161⟩ := fO_b p f10
  have hcur := sk_curve hS (k := f.toNat) (by omega)
  have hcob := hcur.1
  have hcr := hcur.2.2.2.2.2.1.1
  refine wp_in (C := c_C_curveOf) (ls := [some (pR 0), some (pI f), none]) rfl rfl rfl rfl rfl ?_
  refine r_aload_n rfl rfl ?_
  refine r_getR rfl (so0 hS) (sr0_1 hS) ?_
  refine r_iload_n rfl rfl ?_
  refine r_aald rfl (sw2 hS) (by decide) (by omega) (by omega) rG ?_
  refine r_astore_n rfl (Nat.le_of_ble_eq_true rfl) ?_
  refine r_aload_n rfl rfl ?_
  refine r_getR rfl hcob hcr ?_
  refine r_getZ rfl hfo ?_
  refine r_if_ne rfl (by unfold inI; omega) (fun h8 => ?_) (fun h8 => ?_)
  · skip
    refine r_aload_n rfl rfl ?_
    refine r_aret rfl ?_
    exact hQ zI zL (frV_r _) (frV_r _) (frDr_r _) hA0 (hcv (by omega)) (by omega)
  · skip
    refine r_aload_n rfl rfl ?_
    refine r_cV1 rfl hcob (Nat.le_of_ble_eq_true rfl) rfl rfl (w_draw hcur hFH hR hS2 (cF75 f p f10) (fun z z2 f3 f4 e75 hC => ?_))
    refine r_aload_n rfl rfl ?_
    refine r_aret rfl ?_
    have zr : ∀ c, c ≠ fO f.toNat → zput z (fO f.toNat) 5 1 c = z c := fun c hc => zput_row hc
    have zz : ∀ c, c ≠ fO f.toNat → (c < fO f.toNat + 4 ∨ fO f.toNat + 14 < c) → zput z (fO f.toNat) 5 1 c = zI c := fun c hc c2 => by rw [zr c hc]; exact f3 c (by omega) (by omega) (by omega) (by omega) (by omega) (by omega)
    have hfl : zput z (fO f.toNat) 5 1 (fO f.toNat) 5 = 1 := zput_at
    have hzz : z (fO f.toNat) = zI (fO f.toNat) := f3 _ (by omega) (by omega) (by omega) (by omega) (by omega) (by omega)
    refine hQ _ z2 (fun c hc => zz c (by omega) (by omega)) (fun c hc => f4 c (by omega)) (fun g g0 g1 hg => ?_) ⟨⟨?_, ?_, fun g g0 g1 => ?_⟩, fun g g0 g1 => ?_⟩ hC hfl
    · by_cases e : g = f
      · rw [e]; exact hfl
      · have hne := fO_ne g0 p e
        rw [zz _ (by omega) (by omega)]; exact hg
    · rw [zz 0 (by omega) (by omega)]; exact cF0
    · rw [zz 14 (by omega) (by omega)]; exact cF14
    · by_cases e : g = f
      · rw [e, zr _ (by omega)]; exact e75
      · have hne := fO_ne g0 p e
        rw [zz _ (by omega) (by omega)]; exact cF75 g g0 g1
    · by_cases e : g = f
      · rw [e]
        refine ⟨hC.2.1, ?_, Or.inr hfl, fun _ => hC⟩
        rw [zput_off (by decide), hzz]; exact hkd
      · have hne := fO_ne g0 p e
        exact CFo_fr (cFf g g0 g1) (fun c c0 c1 => zz c (by omega) (by omega)) (fun c c0 c1 => f4 c (by omega))
theorem CF_add {S : SS} {z z' zL : ZM} {a : FA} {k : Int} {T : FV} (hC : CF S z zL a) (hk : FOK a) (h10 : a.1 < 10) (h0 : z' 0 10 = a.1 + 1) (hz : ∀ c, c ≠ 0 → (c < fO a.1.toNat ∨ fO a.1.toNat + 3 < c) → z' c = z c) (hn : CFo S z' zL (fO a.1.toNat) T.1 T.2.1 T.2.2.1 T.2.2.2 k) : CF S z' zL (addFA a k T) := by
  obtain ⟨⟨c1, c2, c3⟩, c4⟩ := hC
  have ka := hk.1.1
  have hb := fO_b ka h10
  refine ⟨⟨h0, by rw [hz 14 (by decide) (by omega)]; exact c2, fun g g0 g1 => ?_⟩, fun f f0 f1 => ?_⟩
  · by_cases e : g = a.1
    · rw [e, hz _ (by omega) (by omega), ← e]; exact c3 g g0 g1
    · have hne := fO_ne g0 ka e
      have hb2 := fO_b g0 g1
      rw [hz _ (by omega) (by omega)]; exact c3 g g0 g1
  · have f1 : f < a.1 + 1 := f1
    show CFo S z' zL (fO f.toNat) (updF (gN a) a.1 T.1 f) (if f = a.1 then T.2.1 else gI a f) (if f = a.1 then T.2.2.1 else gJ a f) (if f = a.1 then T.2.2.2 else gV a f) (updF (gK a) a.1 k f)
    unfold updF
    by_cases e : f = a.1
    · rw [if_pos e, if_pos e, if_pos e, if_pos e, if_pos e, e]; exact hn
    · rw [if_neg e, if_neg e, if_neg e, if_neg e, if_neg e]
      have hne := fO_ne f0 ka e
      have hb2 := fO_b f0 (show f < 10 by omega)
      exact CFo_fr (c4 f f0 (by omega)) (fun c c0 c1 => hz c (by omega) (by omega)) (fun c c0 c1 => rfl)
theorem CF_set {S : SS} {z z' zL : ZM} {a : FA} {f : Int} {T : FV} (hC : CF S z zL a) (hk : FOK a) (hf : 0 ≤ f ∧ f < a.1) (hz : ∀ c, (c < fO f.toNat ∨ fO f.toNat + 3 < c) → z' c = z c) (hn : CFo S z' zL (fO f.toNat) T.1 T.2.1 T.2.2.1 T.2.2.2 (gK a f)) : CF S z' zL (setFA a f T) := by
  obtain ⟨⟨c1, c2, c3⟩, c4⟩ := hC
  have k10 := hk.1.2
  have hb := fO_b hf.1 (show f < 10 by omega)
  refine ⟨⟨by rw [hz 0 (by omega)]; exact c1, by rw [hz 14 (by omega)]; exact c2, fun g g0 g1 => ?_⟩, fun g g0 g1 => ?_⟩
  · by_cases e : g = f
    · rw [e, hz _ (by omega), ← e]; exact c3 g g0 g1
    · have hne := fO_ne g0 hf.1 e
      rw [hz _ (by omega)]; exact c3 g g0 g1
  · have g1 : g < a.1 := g1
    show CFo S z' zL (fO g.toNat) (updF (gN a) f T.1 g) (if g = f then T.2.1 else gI a g) (if g = f then T.2.2.1 else gJ a g) (if g = f then T.2.2.2 else gV a g) (gK a g)
    unfold updF
    by_cases e : g = f
    · rw [if_pos e, if_pos e, if_pos e, if_pos e, e]; exact hn
    · rw [if_neg e, if_neg e, if_neg e, if_neg e]
      have hne := fO_ne g0 hf.1 e
      exact CFo_fr (c4 g g0 g1) (fun c c0 c1 => hz c (by omega)) (fun c c0 c1 => rfl)
theorem CF_drop {S : SS} {z z' zL : ZM} {a : FA} (hC : CF S z zL a) (h0 : z' 0 10 = a.1 - 1) (hz : ∀ c, c ≠ 0 → z' c = z c) : CF S z' zL (dropFA a) := by
  obtain ⟨⟨c1, c2, c3⟩, c4⟩ := hC
  refine ⟨⟨h0, by rw [hz 14 (by decide)]; exact c2, fun g g0 g1 => by have hb := fO_b g0 g1; rw [hz _ (by omega)]; exact c3 g g0 g1⟩, fun g g0 g1 => ?_⟩
  have g1 : g < a.1 - 1 := g1
  exact CFo_fr (c4 g g0 (by omega)) (fun c c0 c1 => hz c (by unfold fO at c0; omega)) (fun c c0 c1 => rfl)
theorem c_openForm {X : PX} {d : Nat} {S : SS} {zI zL : ZM} {Q : PQ} (hS : Sk S) {a : FA} (hA : CF S zI zL a) (hk : FOK a) (h10 : a.1 < 10) {kd : Int} (hQ : ∀ z, (∀ c, c ≠ 0 → c ≠ fO a.1.toNat → z c = zI c) → (∀ k, k ≠ 10 → z 0 k = zI 0 k) → z 0 10 = a.1 + 1 → z (fO a.1.toNat) 3 = kd ∧ z (fO a.1.toNat) 4 = 0 ∧ z (fO a.1.toNat) 5 = 0 → Q (some (pI a.1)) S z zL) : wpM X (d + 2) fC_openForm [pR 0, pI kd] S zI zL Q := by
  obtain ⟨⟨cF0, cF14, cF75⟩, cFf⟩ := hA
  have k10 := hk.1.2
  have k00' := hk.1.1
  obtain ⟨hb26, hb161⟩ := fO_b k00' h10
  obtain ⟨rF, rG⟩ := c_F hS k00' h10
  have hform := sk_form hS (k := a.1.toNat) (by omega)
  have hfo := hform.1
  have n0 : (0 : Nat) ≠ fO a.1.toNat := by omega
  refine wp_in (C := c_C_openForm) (ls := [some (pR 0), some (pI kd), none]) rfl rfl rfl rfl rfl ?_
  refine r_aload_n rfl rfl ?_
  refine r_getI rfl (so0 hS) ?_
  rw [cF0]
  refine r_istore_n rfl (Nat.le_of_ble_eq_true rfl) ?_
  refine r_aload_n rfl rfl ?_
  refine r_getR rfl (so0 hS) (sr0_0 hS) ?_
  refine r_iload_n rfl rfl ?_
  refine r_aald rfl (sw1 hS) (by decide) (by omega) (by omega) rF ?_
  refine r_iload_n rfl rfl ?_
  refine r_cV2 rfl hfo (Nat.le_of_ble_eq_true rfl) rfl rfl (w_begin hform ?_)
  refine r_aload_n rfl rfl ?_
  refine r_dupR rfl ?_
  refine r_getI rfl (so0 hS) ?_
  rw [zput_row n0, zput_row n0, zput_row n0, cF0]
  refine r_iconst rfl ?_
  refine r_iadd rfl ?_
  refine r_putI rfl (so0 hS) ?_
  refine r_iload_n rfl rfl ?_
  refine r_iret rfl ?_
  refine hQ _ (fun c c0 c1 => by rw [zput_row c0, zput_row c1, zput_row c1, zput_row c1]) (fun k hk => by rw [zput_off hk, zput_row n0, zput_row n0, zput_row n0]) zput_at ⟨?_, ?_, ?_⟩
  · rw [zput_row (fun q => n0 q.symm), zput_off (by decide), zput_off (by decide), zput_at]
  · rw [zput_row (fun q => n0 q.symm), zput_off (by decide), zput_at]
  · rw [zput_row (fun q => n0 q.symm), zput_at]
theorem DH_fr1 {z z' : ZM} {q : Nat} {G : Int → Option Int} (h : DH z q G) (hz : z' (q + 1) = z (q + 1)) : DH z' q G := fun p h0 h1 => by rw [hz]; exact h p h0 h1
theorem c_draft {S : SS} (hS : Sk S) : isDraft S 9 ∧ isDraft S 11 := ⟨⟨so9 hS, sw10 hS, sr9_0 hS⟩, so11 hS, sw12 hS, sr11_0 hS⟩
theorem c_openFrom {X : PX} {d : Nat} {S : SS} {zI zL : ZM} {Q : PQ} (hS : Sk S) {a : FA} (hA : CF S zI zL a) (hk : FOK a) (h10 : a.1 < 10) {kd : Int} {q : Nat} {G : Int → Option Int} (hD : isDraft S q) (hq9 : q = 9 ∨ q = 11) (hG : DH zI q G) (hfit : fitG G = true) (hB : DR G 500000) (hQ : ∀ z, frVa z zI → CF S z zL (addFA a kd (pourV G)) → FRv (pourV G) → FSv (pourV G) → Q (some (pI a.1)) S z zL) : wpM X (d + 4) fC_openFrom [pR 0, pR q, pI kd] S zI zL Q := by
  have hA0 := hA
  obtain ⟨⟨cF0, cF14, cF75⟩, cFf⟩ := hA
  have k10 := hk.1.2
  have k00' := hk.1.1
  obtain ⟨hb26, hb161⟩ := fO_b k00' h10
  obtain ⟨rF, rG⟩ := c_F hS k00' h10
  have hform := sk_form hS (k := a.1.toNat) (by omega)
  have hfo := hform.1
  have hDo := hD.1
  refine wp_in (C := c_C_openFrom) (ls := [some (pR 0), some (pR q), some (pI kd), none]) rfl rfl rfl rfl rfl ?_
  refine r_aload_n rfl rfl ?_
  refine r_iload_n rfl rfl ?_
  refine r_cV2 rfl (so0 hS) (Nat.le_of_ble_eq_true rfl) rfl rfl (c_openForm (d := d + 1) hS hA0 hk h10 (fun z hz hz0 hz10 hz3 => ?_))
  refine r_istore_n rfl (Nat.le_of_ble_eq_true rfl) ?_
  refine r_aload_n rfl rfl ?_
  refine r_aload_n rfl rfl ?_
  refine r_getR rfl (so0 hS) (sr0_0 hS) ?_
  refine r_iload_n rfl rfl ?_
  refine r_aald rfl (sw1 hS) (by decide) (by omega) (by omega) rF ?_
  refine r_cV2 rfl hDo (Nat.le_of_ble_eq_true rfl) rfl rfl (w_pour hD hform (by omega) (DH_fr1 hG (hz (q + 1) (by omega) (by omega))) hfit hB hz3.2.1 hz3.2.2 (fun z3 hf3 e5 hFH hFR hFS => ?_))
  refine r_iload_n rfl rfl ?_
  refine r_iret rfl ?_
  refine hQ z3 ⟨fun c hc => ?_, fun k hk => ?_⟩ (CF_add hA0 hk h10 ?_ (fun c c0 c1 => ?_) ⟨hFH, ?_, Or.inl e5, fun k => absurd (e5.symm.trans k) (by decide)⟩) hFR hFS
  · rw [hf3.1 c (by omega) (by omega) (by omega) (by omega), hz c (by omega) (by omega)]
  · rw [hf3.1 0 (by omega) (by omega) (by omega) (by omega)]; exact hz0 k hk
  · rw [hf3.1 0 (by omega) (by omega) (by omega) (by omega)]; exact hz10
  · rw [hf3.1 c (by omega) (by omega) (by omega) (by omega), hz c c0 (by omega)]
  · exact hf3.2.trans hz3.1
