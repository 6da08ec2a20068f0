/-! CURVES: an edge more; the drawing -/
theorem cor_k {I J V : Int → Int} {s : CS} {a b k : Int} : cNE (corT I J V s a b k) = cNE s ∧ cFO (corT I J V s a b k) = cFO s ∧ cLA (corT I J V s a b k) = cLA s := by
  unfold corT
  split
  · exact ⟨rfl, rfl, rfl⟩
  · split
    · exact ⟨rfl, rfl, rfl⟩
    · exact ⟨rfl, rfl, rfl⟩
theorem ad1_k {s : CS} {a b : Int} : cNE (ad1 s a b) = cNE s + 1 ∧ cFO (ad1 s a b) (cNE s) = a ∧ cLA (ad1 s a b) (cNE s) = b := by
  refine ⟨rfl, ?_, ?_⟩
  · show updF (cFO s) (cNE s) a (cNE s) = a; unfold updF; rw [if_pos rfl]
  · show updF (cLA s) (cNE s) b (cNE s) = b; unfold updF; rw [if_pos rfl]
theorem frI_t {h : Nat} {z z2 z3 : ZM} (h1 : frI h z2 z) (h2 : frI h z3 z2) : frI h z3 z := fun c c0 c1 c2 c3 c4 c5 => (h2 c c0 c1 c2 c3 c4 c5).trans (h1 c c0 c1 c2 c3 c4 c5)
theorem frL_t {h : Nat} {z z2 z3 : ZM} (h1 : frL h z2 z) (h2 : frL h z3 z2) : frL h z3 z := fun c hc => (h2 c hc).trans (h1 c hc)
set_option maxHeartbeats 4000000 in
theorem w_addEdge {X : PX} {d : Nat} {S : SS} {zI zL : ZM} {Q : PQ} {h : Nat} {n : Int} {I J V : Int → Int} {s : CS} (hC : CvT S zI zL h n I J V s) {a b l g : Int} (ha : 0 ≤ a ∧ a < n) (hb : 0 ≤ b ∧ b < n) (hab : I b ≠ I a ∨ J b ≠ J a) (hn : cNE s < 114) (hB : BH zL (h + 4) n I J V a b l g) (hmost : zI (h + 6) 4 = 75) (hQ : ∀ z z2, frI h z zI → frL h z2 zL → z (h + 6) 4 = 75 → CvT S z z2 h n I J V (addS I J V s a b l g) → Q none S z z2) : wpM X (d + 4) fCurve_addEdge [pR (h + 4), pI a, pI b] S zI zL Q := by
  have hCA := CvT_ad1 hC ha hb hn
  have hR0 : FR n I J V := hC.2.2.1
  obtain ⟨hcv, hT, hR, ⟨e8, hne, hed⟩, hP, hPR, hm75⟩ := hC
  obtain ⟨hobc, hform, hpt, hpts, ⟨hr11, hr12, hr13, hr14⟩, ⟨c0, c1, c2, c3⟩, c4, c5, c6, c7⟩ := hcv
  have l0 : inL 0 := by unfold inL; omega
  obtain ⟨hb1, hb2⟩ := hB
  have bl : l ≠ -1 → (-128 ≤ trE I J a b l ∧ trE I J a b l ≤ 128) ∧ -102400 ≤ rsE I J V a b l ∧ rsE I J V a b l ≤ 102400 := fun q => ⟨trE_b hR0 ha hb (by omega), rsE_b hR0 ha hb (by omega)⟩
  have bg : g ≠ -1 → (-128 ≤ trE I J a b g ∧ trE I J a b g ≤ 128) ∧ -102400 ≤ rsE I J V a b g ∧ rsE I J V a b g ≤ 102400 := fun q => ⟨trE_b hR0 ha hb (by omega), rsE_b hR0 ha hb (by omega)⟩
  have bz10 : inL (zL (h + 4) 10) := by unfold inL; omega
  have bz12 : inL (zL (h + 4) 12) := by unfold inL; omega
  have half : ∀ (z z2 : ZM) (s2 : CS), frI h z zI → frL h z2 zL → z (h + 6) 4 = 75 → CvT S z z2 h n I J V s2 → cNE s2 = cNE s + 1 → cFO s2 (cNE s) = a → cLA s2 (cNE s) = b → adG I J V s2 (cNE s) a b g = addS I J V s a b l g → Run X (d + 3) c_Curve_addEdge 45 [some (pR (h + 4)), some (pI a), some (pI b), some (pI (cNE s))] [] S z z2 0 0 Q := by
    intro z z2 s2 hz hz2 h4 hC2 hne2 hfo hla hs
    have el := hz2 (h + 4) (Or.inl (by omega))
    refine r_aload_n rfl rfl ?_
    refine r_getL rfl (by assumption) ?_
    rw [el]
    refine r_lconst rfl ?_
    refine r_l_eq rfl rfl bz12 l0 (fun h49 => ?_) (fun h49 => ?_)
    · skip
      refine r_ret rfl ?_
      unfold adG at hs; rw [if_pos (by omega)] at hs; exact hQ z z2 hz hz2 h4 (hs ▸ hC2)
    · skip
      refine r_aload_n rfl rfl ?_
      refine r_getR rfl (by assumption) (by assumption) ?_
      refine r_iload_n rfl rfl ?_
      refine r_aload_n rfl rfl ?_
      refine r_iload_n rfl rfl ?_
      refine r_aload_n rfl rfl ?_
      refine r_getL rfl (by assumption) ?_
      rw [el]
      refine r_aload_n rfl rfl ?_
      refine r_getL rfl (by assumption) ?_
      rw [el]
      have ng : g ≠ -1 := by omega
      have bg := bg ng
      have e11 : zL (h + 4) 11 = rsE I J V a b g := by omega
      have e12 : zL (h + 4) 12 = -(trE I J a b g) := by omega
      refine r_cV4 rfl hobc (Nat.le_of_ble_eq_true rfl) rfl rfl (w_cornerT hC2 hne.1 (by omega) (k := g) (by omega) (by rw [hfo, hla]; exact hab) (by rw [hfo, hla]; omega) (by rw [hfo, hla]; exact Or.inr ⟨e11, e12⟩) h4 (fun z3 z4 f1 f2 f3 f4 hC3 => ?_))
      rw [hfo, hla] at hC3 ⊢
      have hcb := corA_b (I := I) (J := J) (V := V) (s := s2) (a := a) (b := b) (k := g) hC2.2.2.2.2.2.1.1
      have hck := cor_k (I := I) (J := J) (V := V) (s := s2) (a := a) (b := b) (k := g)
      refine r_iast rfl (by assumption) (by omega) (by omega) ?_
      refine r_ret rfl ?_
      unfold adG at hs; rw [if_neg ng] at hs; exact hQ _ z4 (frI_t (frI_t hz f1) (fun c k0 k1 k2 k3 k4 k5 => zput_row (by omega))) (frL_t hz2 f3) (by rw [zput_row (by omega)]; exact f4) (hs ▸ CvT_LS hC3 hne.1 (by rw [hck.1]; omega) hcb)
  refine wp_in (C := c_Curve_addEdge) (ls := [some (pR (h + 4)), some (pI a), some (pI b), none]) rfl rfl rfl rfl rfl ?_
  refine r_aload_n rfl rfl ?_
  refine r_getI rfl (by assumption) ?_
  refine r_istore_n rfl (Nat.le_of_ble_eq_true rfl) ?_
  rw [e8]
  refine r_aload_n rfl rfl ?_
  refine r_getR rfl (by assumption) (by assumption) ?_
  refine r_iload_n rfl rfl ?_
  refine r_iload_n rfl rfl ?_
  refine r_iast rfl (by assumption) (by omega) (by omega) ?_
  refine r_aload_n rfl rfl ?_
  refine r_getR rfl (by assumption) (by assumption) ?_
  refine r_iload_n rfl rfl ?_
  refine r_iload_n rfl rfl ?_
  refine r_iast rfl (by assumption) (by omega) (by omega) ?_
  refine r_aload_n rfl rfl ?_
  refine r_getR rfl (by assumption) (by assumption) ?_
  refine r_iload_n rfl rfl ?_
  refine r_iconst rfl ?_
  refine r_iast rfl (by assumption) (by omega) (by omega) ?_
  refine r_aload_n rfl rfl ?_
  refine r_getR rfl (by assumption) (by assumption) ?_
  refine r_iload_n rfl rfl ?_
  refine r_iconst rfl ?_
  refine r_iast rfl (by assumption) (by omega) (by omega) ?_
  refine r_aload_n rfl rfl ?_
  refine r_dupR rfl ?_
  refine r_getI rfl (by assumption) ?_
  rw [show zput (zput (zput (zput zI (h + 11) (cNE s) a) (h + 12) (cNE s) b) (h + 13) (cNE s) (-1)) (h + 14) (cNE s) (-1) (h + 4) 8 = cNE s by rw [zput_row (by omega), zput_row (by omega), zput_row (by omega), zput_row (by omega)]; exact e8]
  refine r_iconst rfl ?_
  refine r_iadd rfl ?_
  refine r_putI rfl (by assumption) ?_
  obtain ⟨k1, k2, k3⟩ := ad1_k (s := s) (a := a) (b := b)
  have fA : frI h (zput (zput (zput (zput (zput zI (h + 11) (cNE s) a) (h + 12) (cNE s) b) (h + 13) (cNE s) (-1)) (h + 14) (cNE s) (-1)) (h + 4) 8 (cNE s + 1)) zI := fun c k0 k1 k2 k3 k4 k5 => by rw [zput_row k0, zput_row k5, zput_row k4, zput_row k3, zput_row k2]
  have h4A : zput (zput (zput (zput (zput zI (h + 11) (cNE s) a) (h + 12) (cNE s) b) (h + 13) (cNE s) (-1)) (h + 14) (cNE s) (-1)) (h + 4) 8 (cNE s + 1) (h + 6) 4 = 75 := by rw [zput_row (by omega), zput_row (by omega), zput_row (by omega), zput_row (by omega), zput_row (by omega)]; exact hmost
  have h4A4 := h4A
  refine r_aload_n rfl rfl ?_
  refine r_getL rfl (by assumption) ?_
  refine r_lconst rfl ?_
  refine r_l_eq rfl rfl bz10 l0 (fun h33 => ?_) (fun h33 => ?_)
  · skip
    exact half _ zL (ad1 s a b) fA (fun c hc => rfl) h4A hCA k1 k2 k3 (by unfold addS adF; rw [if_pos (by omega)])
  · skip
    refine r_aload_n rfl rfl ?_
    refine r_getR rfl (by assumption) (by assumption) ?_
    refine r_iload_n rfl rfl ?_
    refine r_aload_n rfl rfl ?_
    refine r_iload_n rfl rfl ?_
    refine r_aload_n rfl rfl ?_
    refine r_getL rfl (by assumption) ?_
    refine r_aload_n rfl rfl ?_
    refine r_getL rfl (by assumption) ?_
    have nl : l ≠ -1 := by omega
    have bl := bl nl
    have e9 : zL (h + 4) 9 = -(rsE I J V a b l) := by omega
    have e10 : zL (h + 4) 10 = trE I J a b l := by omega
    refine r_cV4 rfl hobc (Nat.le_of_ble_eq_true rfl) rfl rfl (w_cornerT hCA hne.1 (by rw [k1]; omega) (k := l) (by omega) (by rw [k2, k3]; exact hab) (by rw [k2, k3]; omega) (by rw [k2, k3]; exact Or.inl ⟨e9, e10⟩) h4A (fun z3 z4 f1 f2 f3 f4 hC3 => ?_))
    rw [k2, k3] at hC3 ⊢
    have hcb := corA_b (I := I) (J := J) (V := V) (s := ad1 s a b) (a := a) (b := b) (k := l) hPR.1
    have hck := cor_k (I := I) (J := J) (V := V) (s := ad1 s a b) (a := a) (b := b) (k := l)
    refine r_iast rfl (by assumption) (by omega) (by omega) ?_
    exact half _ z4 (sFI (corT I J V (ad1 s a b) a b l) (cNE s) (corA I J V (ad1 s a b) a b l)) (frI_t (frI_t fA f1) (fun c k0 k1 k2 k3 k4 k5 => zput_row (by omega))) f3 (by rw [zput_row (by omega)]; exact f4) (CvT_FI hC3 hne.1 (by rw [hck.1, k1]; omega) hcb) (hck.1.trans k1) (by show cFO (corT I J V (ad1 s a b) a b l) (cNE s) = a; rw [hck.2.1]; exact k2) (by show cLA (corT I J V (ad1 s a b) a b l) (cNE s) = b; rw [hck.2.2]; exact k3) (by unfold addS adF; rw [if_neg nl])
