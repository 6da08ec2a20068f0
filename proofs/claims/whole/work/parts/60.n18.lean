/-! THE REFERENCE: bodies -/
def frU (z' z : ZM) : Prop := (∀ c, c ≠ 184 → c ≠ 216 → z' c = z c) ∧ ∀ k, k ≠ 50 → z' 184 k = z 184 k
theorem frU_t {z z2 z3 : ZM} (h1 : frU z2 z) (h2 : frU z3 z2) : frU z3 z := ⟨fun c a b => (h2.1 c a b).trans (h1.1 c a b), fun k hk => (h2.2 k hk).trans (h1.2 k hk)⟩
/-- kind and number of terms of a form -/
def KTH (z : ZM) (f K t : Int) : Prop := z 185 f = K ∧ z 186 f = t
theorem KTH_fr {z' z : ZM} {f K t : Int} (h : KTH z f K t) (hz : frU z' z) : KTH z' f K t := by unfold KTH; rw [hz.1 185 (by decide) (by decide), hz.1 186 (by decide) (by decide)]; exact h
theorem x_body {X : PX} {d : Nat} {S : SS} {zI zL : ZM} {Q : PQ} (hS : Sk S) {L : List Int} {b : Int} (hT : TrH zI 184 216 50 L) (hl : L.length < 40) (hQ : ∀ z, frU z zI → TrH z 184 216 50 (L ++ [b]) → Q none S z zL) : wpM X (d + 1) fM_body [pR 184, pI b] S zI zL Q := by
  have e1 := hT.1
  refine wp_in (C := c_M_body) (ls := [some (pR 184), some (pI b)]) rfl rfl rfl rfl rfl ?_
  refine r_aload_n rfl rfl ?_
  refine r_getI rfl (so184 hS) ?_
  rw [e1]
  refine r_bipush rfl ?_
  refine r_icmp_ge rfl (by unfold inI; omega) (by unfold inI; omega) (fun h3 => ?_) (fun h3 => ?_)
  · skip
    exact absurd h3 (by omega)
  · skip
    refine r_aload_n rfl rfl ?_
    refine r_getR rfl (so184 hS) (sr184_49 hS) ?_
    refine r_aload_n rfl rfl ?_
    refine r_getI rfl (so184 hS) ?_
    rw [e1]
    refine r_iload_n rfl rfl ?_
    refine r_iast rfl (sw216 hS) (by omega) (by omega) ?_
    refine r_aload_n rfl rfl ?_
    refine r_dupR rfl ?_
    refine r_getI rfl (so184 hS) ?_
    rw [zput_row (show (184 : Nat) ≠ 216 by decide), e1]
    refine r_iconst rfl ?_
    refine r_iadd rfl ?_
    refine r_putI rfl (so184 hS) ?_
    refine r_ret rfl ?_
    exact hQ _ ⟨fun c k0 k1 => by rw [zput_row k0, zput_row k1], fun k hk => by rw [zput_off hk, zput_row (show (184 : Nat) ≠ 216 by decide)]⟩ (TrH_app hT (by decide))
theorem x_formLies {X : PX} {d : Nat} {S : SS} {zI zL : ZM} {Q : PQ} (hS : Sk S) {f K t x : Int} {L : List Int} (hf : 0 ≤ f ∧ f ≤ 10) (hA : KTH zI f K t) (hT : TrH zI 184 216 50 L) (hl : L.length < 40) (hQ : ∀ z, frU z zI → TrH z 184 216 50 (L ++ [10]) → Q (some (pI (x + t))) S z zL) : wpM X (d + 2) fM_formLies [pR 184, pI f, pI x] S zI zL Q := by
  refine wp_in (C := c_M_formLies) (ls := [some (pR 184), some (pI f), some (pI x)]) rfl rfl rfl rfl rfl ?_
  refine r_aload_n rfl rfl ?_
  refine r_bipush rfl ?_
  refine r_cV2 rfl (so184 hS) (Nat.le_of_ble_eq_true rfl) rfl rfl (x_body hS hT (by omega) (fun z1 g1 hT1 => ?_))
  have hA1 := KTH_fr hA g1
  refine r_iload_n rfl rfl ?_
  refine r_aload_n rfl rfl ?_
  refine r_getR rfl (so184 hS) (sr184_2 hS) ?_
  refine r_iload_n rfl rfl ?_
  refine r_iald rfl (sw186 hS) (by omega) (by omega) ?_
  rw [hA1.2]
  refine r_iadd rfl ?_
  refine r_iret rfl ?_
  exact hQ z1 g1 hT1
theorem x_sumLies {X : PX} {d : Nat} {S : SS} {zI zL : ZM} {Q : PQ} (hS : Sk S) {f K t x : Int} {L : List Int} (hf : 0 ≤ f ∧ f ≤ 10) (hA : KTH zI f K t) (hT : TrH zI 184 216 50 L) (hl : L.length < 39) (hQ : ∀ z, frU z zI → TrH z 184 216 50 (L ++ [20, 10]) → Q (some (pI (x7 (x + t)))) S z zL) : wpM X (d + 3) fM_sumLies [pR 184, pI f, pI x] S zI zL Q := by
  refine wp_in (C := c_M_sumLies) (ls := [some (pR 184), some (pI f), some (pI x)]) rfl rfl rfl rfl rfl ?_
  refine r_aload_n rfl rfl ?_
  refine r_bipush rfl ?_
  refine r_cV2 rfl (so184 hS) (Nat.le_of_ble_eq_true rfl) rfl rfl (x_body hS hT (by omega) (fun z1 g1 hT1 => ?_))
  have hA1 := KTH_fr hA g1
  refine r_aload_n rfl rfl ?_
  refine r_iload_n rfl rfl ?_
  refine r_iload_n rfl rfl ?_
  refine r_cV3 rfl (so184 hS) (Nat.le_of_ble_eq_true rfl) rfl rfl (x_formLies hS hf hA1 hT1 (by simp; omega) (fun z2 g2 hT2 => ?_))
  refine r_bipush rfl ?_
  refine r_ixor rfl ?_
  refine r_iret rfl ?_
  exact hQ z2 (frU_t g1 g2) (by rw [List.append_assoc] at hT2; exact hT2)
theorem x_liesOf {X : PX} {d : Nat} {S : SS} {zI zL : ZM} {Q : PQ} (hS : Sk S) {f K t x : Int} {L : List Int} (hf : 0 ≤ f ∧ f ≤ 10) (hA : KTH zI f K t) (hT : TrH zI 184 216 50 L) (hl : L.length < 38) (hK : 0 ≤ K ∧ K ≤ 3) (hQ : ∀ z, frU z zI → TrH z 184 216 50 (L ++ lieT K) → Q (some (pI (lieV K t x))) S z zL) : wpM X (d + 4) fM_liesOf [pR 184, pI f, pI x] S zI zL Q := by
  unfold lieT lieV at hQ
  refine wp_in (C := c_M_liesOf) (ls := [some (pR 184), some (pI f), some (pI x)]) rfl rfl rfl rfl rfl ?_
  refine r_aload_n rfl rfl ?_
  refine r_getR rfl (so184 hS) (sr184_1 hS) ?_
  refine r_iload_n rfl rfl ?_
  refine r_iald rfl (sw185 hS) (by omega) (by omega) ?_
  rw [hA.1]
  refine r_iconst rfl ?_
  refine r_icmp_ne rfl (by unfold inI; omega) (by unfold inI; omega) (fun h5 => ?_) (fun h5 => ?_)
  · skip
    refine r_aload_n rfl rfl ?_
    refine r_getR rfl (so184 hS) (sr184_1 hS) ?_
    refine r_iload_n rfl rfl ?_
    refine r_iald rfl (sw185 hS) (by omega) (by omega) ?_
    rw [hA.1]
    refine r_iconst rfl ?_
    refine r_icmp_eq rfl (by unfold inI; omega) (by unfold inI; omega) (fun h16 => ?_) (fun h16 => ?_)
    · skip
      refine r_aload_n rfl rfl ?_
      refine r_bipush rfl ?_
      refine r_cV2 rfl (so184 hS) (Nat.le_of_ble_eq_true rfl) rfl rfl (x_body hS hT (by omega) (fun z1 g1 hT1 => ?_))
      have hA1 := KTH_fr hA g1
      refine r_aload_n rfl rfl ?_
      refine r_iload_n rfl rfl ?_
      refine r_iload_n rfl rfl ?_
      refine r_cV3 rfl (so184 hS) (Nat.le_of_ble_eq_true rfl) rfl rfl (x_sumLies hS hf hA1 hT1 (by simp; omega) (fun z2 g2 hT2 => ?_))
      refine r_iconst rfl ?_
      refine r_imul rfl ?_
      refine r_iret rfl ?_
      rw [if_neg h5, if_pos h16, if_neg h5, if_pos h16] at hQ; exact hQ z2 (frU_t g1 g2) (by rw [List.append_assoc] at hT2; exact hT2)
    · skip
      refine r_aload_n rfl rfl ?_
      refine r_iload_n rfl rfl ?_
      refine r_iload_n rfl rfl ?_
      refine r_cV3 rfl (so184 hS) (Nat.le_of_ble_eq_true rfl) rfl rfl (x_formLies (d := d + 1) hS hf hA hT (by omega) (fun z2 g2 hT2 => ?_))
      refine r_iret rfl ?_
      rw [if_neg h5, if_neg h16, if_neg h5, if_neg h16] at hQ; exact hQ z2 g2 hT2
  · skip
    refine r_aload_n rfl rfl ?_
    refine r_iload_n rfl rfl ?_
    refine r_iload_n rfl rfl ?_
    refine r_cV3 rfl (so184 hS) (Nat.le_of_ble_eq_true rfl) rfl rfl (x_sumLies hS hf hA hT (by omega) (fun z2 g2 hT2 => ?_))
    refine r_iret rfl ?_
    rw [if_pos h5, if_pos h5] at hQ; exact hQ z2 g2 hT2
theorem x_formWeighs {X : PX} {d : Nat} {S : SS} {zI zL : ZM} {Q : PQ} (hS : Sk S) {f K t x : Int} {L : List Int} (hf : 0 ≤ f ∧ f ≤ 10) (hA : KTH zI f K t) (hT : TrH zI 184 216 50 L) (hl : L.length < 37) (hK : 0 ≤ K ∧ K ≤ 3) (hQ : ∀ z, frU z zI → TrH z 184 216 50 (L ++ (11 :: lieT K)) → Q (some (pI (lieV K t x * 3))) S z zL) : wpM X (d + 5) fM_formWeighs [pR 184, pI f, pI x] S zI zL Q := by
  refine wp_in (C := c_M_formWeighs) (ls := [some (pR 184), some (pI f), some (pI x)]) rfl rfl rfl rfl rfl ?_
  refine r_aload_n rfl rfl ?_
  refine r_bipush rfl ?_
  refine r_cV2 rfl (so184 hS) (Nat.le_of_ble_eq_true rfl) rfl rfl (x_body hS hT (by omega) (fun z1 g1 hT1 => ?_))
  have hA1 := KTH_fr hA g1
  refine r_aload_n rfl rfl ?_
  refine r_iload_n rfl rfl ?_
  refine r_iload_n rfl rfl ?_
  refine r_cV3 rfl (so184 hS) (Nat.le_of_ble_eq_true rfl) rfl rfl (x_liesOf hS hf hA1 hT1 (by simp; omega) hK (fun z2 g2 hT2 => ?_))
  refine r_iconst rfl ?_
  refine r_imul rfl ?_
  refine r_iret rfl ?_
  exact hQ z2 (frU_t g1 g2) (by rw [List.append_assoc] at hT2; exact hT2)
theorem x_weighsOf {X : PX} {d : Nat} {S : SS} {zI zL : ZM} {Q : PQ} (hS : Sk S) {f K t x : Int} {L : List Int} (hf : 0 ≤ f ∧ f ≤ 10) (hA : KTH zI f K t) (hT : TrH zI 184 216 50 L) (hl : L.length < 36) (hK : 0 ≤ K ∧ K ≤ 3) (hQ : ∀ z, frU z zI → TrH z 184 216 50 (L ++ weiT K) → Q (some (pI (weiV K t x))) S z zL) : wpM X (d + 6) fM_weighsOf [pR 184, pI f, pI x] S zI zL Q := by
  unfold weiT weiV at hQ
  refine wp_in (C := c_M_weighsOf) (ls := [some (pR 184), some (pI f), some (pI x)]) rfl rfl rfl rfl rfl ?_
  refine r_aload_n rfl rfl ?_
  refine r_getR rfl (so184 hS) (sr184_1 hS) ?_
  refine r_iload_n rfl rfl ?_
  refine r_iald rfl (sw185 hS) (by omega) (by omega) ?_
  rw [hA.1]
  refine r_iconst rfl ?_
  refine r_icmp_eq rfl (by unfold inI; omega) (by unfold inI; omega) (fun h5 => ?_) (fun h5 => ?_)
  · skip
    refine r_aload_n rfl rfl ?_
    refine r_bipush rfl ?_
    refine r_cV2 rfl (so184 hS) (Nat.le_of_ble_eq_true rfl) rfl rfl (x_body hS hT (by omega) (fun z1 g1 hT1 => ?_))
    have hA1 := KTH_fr hA g1
    refine r_aload_n rfl rfl ?_
    refine r_iload_n rfl rfl ?_
    refine r_iload_n rfl rfl ?_
    refine r_iconst rfl ?_
    refine r_isub rfl ?_
    refine r_cV3 rfl (so184 hS) (Nat.le_of_ble_eq_true rfl) rfl rfl (x_formWeighs hS hf hA1 hT1 (by simp; omega) hK (fun z2 g2 hT2 => ?_))
    refine r_iret rfl ?_
    rw [if_pos h5, if_pos h5] at hQ; exact hQ z2 (frU_t g1 g2) (by rw [List.append_assoc] at hT2; exact hT2)
  · skip
    refine r_aload_n rfl rfl ?_
    refine r_iload_n rfl rfl ?_
    refine r_iload_n rfl rfl ?_
    refine r_cV3 rfl (so184 hS) (Nat.le_of_ble_eq_true rfl) rfl rfl (x_formWeighs hS hf hA hT (by omega) hK (fun z2 g2 hT2 => ?_))
    refine r_iret rfl ?_
    rw [if_neg h5, if_neg h5] at hQ; exact hQ z2 g2 hT2
theorem x_formMeets {X : PX} {d : Nat} {S : SS} {zI zL : ZM} {Q : PQ} (hS : Sk S) {f K t x : Int} {L : List Int} (hf : 0 ≤ f ∧ f ≤ 10) (hA : KTH zI f K t) (hT : TrH zI 184 216 50 L) (hl : L.length < 31) (hK : 0 ≤ K ∧ K ≤ 3) (hQ : ∀ z, frU z zI → TrH z 184 216 50 (L ++ meeT K) → Q (some (pI (meeF K t f x))) S z zL) : wpM X (d + 7) fM_formMeets [pR 184, pI f, pI x] S zI zL Q := by
  have l1 := weiT_l K
  refine wp_in (C := c_M_formMeets) (ls := [some (pR 184), some (pI f), some (pI x), none]) rfl rfl rfl rfl rfl ?_
  refine r_aload_n rfl rfl ?_
  refine r_bipush rfl ?_
  refine r_cV2 rfl (so184 hS) (Nat.le_of_ble_eq_true rfl) rfl rfl (x_body hS hT (by omega) (fun z1 g1 hT1 => ?_))
  have hA1 := KTH_fr hA g1
  refine r_aload_n rfl rfl ?_
  refine r_iload_n rfl rfl ?_
  refine r_iload_n rfl rfl ?_
  refine r_cV3 rfl (so184 hS) (Nat.le_of_ble_eq_true rfl) rfl rfl (x_weighsOf hS hf hA1 hT1 (by simp; omega) hK (fun z2 g2 hT2 => ?_))
  refine r_istore_n rfl (Nat.le_of_ble_eq_true rfl) ?_
  refine r_iload_n rfl rfl ?_
  refine r_aload_n rfl rfl ?_
  refine r_iload_n rfl rfl ?_
  refine r_iload_n rfl rfl ?_
  refine r_iload_n rfl rfl ?_
  refine r_iadd rfl ?_
  refine r_cV3 rfl (so184 hS) (Nat.le_of_ble_eq_true rfl) rfl rfl (x_liesOf (d := d + 2) hS hf (KTH_fr hA1 g2) hT2 (by simp; omega) hK (fun z3 g3 hT3 => ?_))
  refine r_isub rfl ?_
  refine r_iret rfl ?_
  exact hQ z3 (frU_t g1 (frU_t g2 g3)) (by rw [List.append_assoc, List.append_assoc] at hT3; exact hT3)
theorem x_meetsOf {X : PX} {d : Nat} {S : SS} {zI zL : ZM} {Q : PQ} (hS : Sk S) {f K t x : Int} {L : List Int} (hf : 0 ≤ f ∧ f ≤ 10) (hA : KTH zI f K t) (hT : TrH zI 184 216 50 L) (hl : L.length < 25) (hK : 0 ≤ K ∧ K ≤ 3) (hQ : ∀ z, frU z zI → TrH z 184 216 50 (L ++ metT K) → Q (some (pI (meeV K t f x))) S z zL) : wpM X (d + 8) fM_meetsOf [pR 184, pI f, pI x] S zI zL Q := by
  have l1 := meeT_l K
  unfold metT meeV at hQ
  have r1 : (K = 1 ∨ K = 2) → Run X (d + 7) c_M_meetsOf 14 [some (pR 184), some (pI f), some (pI x), some (pI 0)] [] S zI zL 0 0 Q := by
    intro hk
    rw [if_pos hk, if_pos hk] at hQ
    refine r_aload_n rfl rfl ?_
    refine r_bipush rfl ?_
    refine r_cV2 rfl (so184 hS) (Nat.le_of_ble_eq_true rfl) rfl rfl (x_body hS hT (by omega) (fun z1 g1 hT1 => ?_))
    have hA1 := KTH_fr hA g1
    refine r_aload_n rfl rfl ?_
    refine r_iload_n rfl rfl ?_
    refine r_iload_n rfl rfl ?_
    refine r_cV3 rfl (so184 hS) (Nat.le_of_ble_eq_true rfl) rfl rfl (x_formMeets hS hf hA1 hT1 (by simp; omega) hK (fun z2 g2 hT2 => ?_))
    refine r_istore_n rfl (Nat.le_of_ble_eq_true rfl) ?_
    refine r_iload_n rfl rfl ?_
    refine r_aload_n rfl rfl ?_
    refine r_iload_n rfl rfl ?_
    refine r_iconst rfl ?_
    refine r_cV3 rfl (so184 hS) (Nat.le_of_ble_eq_true rfl) rfl rfl (x_liesOf (d := d + 3) hS hf (KTH_fr hA1 g2) hT2 (by simp; omega) hK (fun z3 g3 hT3 => ?_))
    refine r_iadd rfl ?_
    refine r_iret rfl ?_
    exact hQ z3 (frU_t g1 (frU_t g2 g3)) (by rw [List.append_assoc, List.append_assoc] at hT3; exact hT3)
  refine wp_in (C := c_M_meetsOf) (ls := [some (pR 184), some (pI f), some (pI x), none]) rfl rfl rfl rfl rfl ?_
  refine r_iconst rfl ?_
  refine r_istore_n rfl (Nat.le_of_ble_eq_true rfl) ?_
  refine r_aload_n rfl rfl ?_
  refine r_getR rfl (so184 hS) (sr184_1 hS) ?_
  refine r_iload_n rfl rfl ?_
  refine r_iald rfl (sw185 hS) (by omega) (by omega) ?_
  rw [hA.1]
  refine r_iconst rfl ?_
  refine r_icmp_eq rfl (by unfold inI; omega) (by unfold inI; omega) (fun h7 => ?_) (fun h7 => ?_)
  · skip
    exact r1 (Or.inl h7)
  · skip
    refine r_aload_n rfl rfl ?_
    refine r_getR rfl (so184 hS) (sr184_1 hS) ?_
    refine r_iload_n rfl rfl ?_
    refine r_iald rfl (sw185 hS) (by omega) (by omega) ?_
    rw [hA.1]
    refine r_iconst rfl ?_
    refine r_icmp_ne rfl (by unfold inI; omega) (by unfold inI; omega) (fun h13 => ?_) (fun h13 => ?_)
    · skip
      refine r_aload_n rfl rfl ?_
      refine r_getR rfl (so184 hS) (sr184_1 hS) ?_
      refine r_iload_n rfl rfl ?_
      refine r_iald rfl (sw185 hS) (by omega) (by omega) ?_
      rw [hA.1]
      refine r_iconst rfl ?_
      refine r_icmp_eq rfl (by unfold inI; omega) (by unfold inI; omega) (fun h34 => ?_) (fun h34 => ?_)
      · skip
        refine r_aload_n rfl rfl ?_
        refine r_bipush rfl ?_
        refine r_cV2 rfl (so184 hS) (Nat.le_of_ble_eq_true rfl) rfl rfl (x_body hS hT (by omega) (fun z1 g1 hT1 => ?_))
        have hA1 := KTH_fr hA g1
        refine r_aload_n rfl rfl ?_
        refine r_iload_n rfl rfl ?_
        refine r_iload_n rfl rfl ?_
        refine r_cV3 rfl (so184 hS) (Nat.le_of_ble_eq_true rfl) rfl rfl (x_formMeets hS hf hA1 hT1 (by simp; omega) hK (fun z2 g2 hT2 => ?_))
        refine r_istore_n rfl (Nat.le_of_ble_eq_true rfl) ?_
        refine r_iload_n rfl rfl ?_
        refine r_aload_n rfl rfl ?_
        refine r_iload_n rfl rfl ?_
        refine r_iload_n rfl rfl ?_
        refine r_cV3 rfl (so184 hS) (Nat.le_of_ble_eq_true rfl) rfl rfl (x_weighsOf (d := d + 1) hS hf (KTH_fr hA1 g2) hT2 (by simp; omega) hK (fun z3 g3 hT3 => ?_))
        refine r_ixor rfl ?_
        refine r_iret rfl ?_
        rw [if_neg (by omega), if_pos h34, if_neg (by omega), if_pos h34] at hQ; exact hQ z3 (frU_t g1 (frU_t g2 g3)) (by rw [List.append_assoc, List.append_assoc] at hT3; exact hT3)
      · skip
        refine r_aload_n rfl rfl ?_
        refine r_iload_n rfl rfl ?_
        refine r_iload_n rfl rfl ?_
        refine r_cV3 rfl (so184 hS) (Nat.le_of_ble_eq_true rfl) rfl rfl (x_formMeets hS hf hA hT (by omega) hK (fun z2 g2 hT2 => ?_))
        refine r_iret rfl ?_
        rw [if_neg (by omega), if_neg h34, if_neg (by omega), if_neg h34] at hQ; exact hQ z2 g2 hT2
    · skip
      exact r1 (Or.inr h13)
