/-! THE REFERENCE: a corner -/
def hdB (s : KS) (B : Int) : Prop := 0 ≤ s.1 ∧ ∀ t, 0 ≤ t → t < s.1 → 0 ≤ s.2.2.2.2.2 t ∧ s.2.2.2.2.2 t ≤ B
theorem hdB_S {s : KS} {B x xd y yd : Int} (h : hdB s B) (hB : 0 ≤ B) : hdB (kcS s x xd y yd) (B + 1) := by
  obtain ⟨h0, h1⟩ := h
  have ha := kcA_b (x := x) (xd := xd) (y := y) (yd := yd) h0
  unfold kcS
  split
  · refine ⟨h0, fun t t0 t1 => ?_⟩
    have := h1 t t0 t1
    show 0 ≤ updF s.2.2.2.2.2 (kcA s x xd y yd) (s.2.2.2.2.2 (kcA s x xd y yd) + 1) t ∧ updF s.2.2.2.2.2 (kcA s x xd y yd) (s.2.2.2.2.2 (kcA s x xd y yd) + 1) t ≤ B + 1
    unfold updF
    by_cases e : t = kcA s x xd y yd
    · rw [if_pos e, ← e]; omega
    · rw [if_neg e]; omega
  · refine ⟨by show 0 ≤ s.1 + 1; omega, fun t t0 t1 => ?_⟩
    have t1 : t < s.1 + 1 := t1
    show 0 ≤ insF s.2.2.2.2.2 (kcA s x xd y yd) 1 t ∧ insF s.2.2.2.2.2 (kcA s x xd y yd) 1 t ≤ B + 1
    unfold insF
    by_cases e : t < kcA s x xd y yd
    · rw [if_pos e]; have := h1 t t0 (by omega); omega
    · rw [if_neg e]
      by_cases e2 : t = kcA s x xd y yd
      · rw [if_pos e2]; omega
      · rw [if_neg e2]; have := h1 (t - 1) (by omega) (by omega); omega
theorem hdB_w {s : KS} {B C : Int} (h : hdB s B) (hB : B ≤ C) : hdB s C := ⟨h.1, fun t t0 t1 => by have := h.2 t t0 t1; omega⟩
theorem hdB_E {I J V : Int → Int} {s : KS} {e : EE} {B : Int} (h : hdB s B) (hB : 0 ≤ B) : hdB (crE I J V s e) (B + 2) := by
  rw [crE_eq]
  have h1 : hdB (crF I J V s e) (B + 1) := by
    unfold crF; split
    · exact hdB_w h (by omega)
    · exact hdB_S h hB
  split
  · exact hdB_w h1 (by omega)
  · exact hdB_w (hdB_S h1 (by omega)) (by omega)
theorem hdB_L {I J V : Int → Int} : ∀ (L : List EE) (s : KS) (B : Int), hdB s B → 0 ≤ B → hdB (L.foldl (crE I J V) s) (B + 2 * (L.length : Int))
  | [], s, B, h, _ => hdB_w h (by show B ≤ B + 2 * ((0 : Nat) : Int); omega)
  | e :: r, s, B, h, hB => hdB_w (hdB_L r (crE I J V s e) (B + 2) (hdB_E h hB) (by omega)) (by rw [List.length_cons]; omega)
theorem crL_had (n : Int) (I J V : Int → Int) : hdB (crL n I J V) (2 * ((edL n I J V).length : Int)) := hdB_w (hdB_L (I := I) (J := J) (V := V) (edL n I J V) k00 0 ⟨Int.le_refl _, fun t t0 t1 => absurd t1 (by show ¬ t < 0; omega)⟩ (Int.le_refl _)) (by omega)
def crV (n : Int) (I J V : Int → Int) (s : KS) (c u : Int) : Int := if u < 4 then prt (s.2.1 c) (s.2.2.1 c) (s.2.2.2.1 c) (s.2.2.2.2.1 c) u else if u = 4 then countS n I J V (s.2.1 c) (s.2.2.1 c) (s.2.2.2.1 c) (s.2.2.2.2.1 c) else if u = 5 then areaC n I J V (s.2.1 c) (s.2.2.1 c) (s.2.2.2.1 c) (s.2.2.2.2.1 c) else s.2.2.2.2.2 c
def sCor (a : FA) (f c u : Int) : Int := if (0 ≤ f ∧ f < a.1) ∧ 0 ≤ c ∧ (0 ≤ u ∧ u ≤ 6) ∧ c < (crA a f).1 then crV (gN a f) (gI a f) (gJ a f) (gV a f) (crA a f) c u else NOv
set_option maxHeartbeats 4000000 in
theorem y_corner {X : PX} {d : Nat} {S : SS} {zI zL : ZM} {Q : PQ} (hS : Sk S) {a : FA} (hA : MF zI a) (hk : FOK a) (hcp : CPa a) (hrn : RGa a) {f c u : Int} (hf : inI f) (hc : inI c) (hu : inI u) (hQ : ∀ z z2, frY z zI → frYL z2 zL → Q (some (pL (sCor a f c u))) S z z2) : wpM X (d + 6) fM_corner [pR 184, pI f, pI c, pI u] S zI zL Q := by
  have hX := MF_x hA hk
  have hF0 := hA.1
  obtain ⟨kb, hkf⟩ := hk
  have hget : ∀ f, 0 ≤ f → f < zI 184 0 → (FM zI f (gN a f) (gI a f) (gJ a f) (gV a f) ∧ zI 185 f = gK a f) ∧ FR (gN a f) (gI a f) (gJ a f) (gV a f) ∧ FS (gN a f) (gI a f) (gJ a f) ∧ (0 ≤ gK a f ∧ gK a f ≤ 3) ∧ (gK a f = 0 → gN a f ≤ 12) := fun f f0 f1 => ⟨hA.2 f f0 (by omega), hkf f f0 (by omega)⟩
  unfold sCor at hQ
  have hz0 := frY_r zI
  have hz2 := frYL_r zL
  refine wp_in (C := c_M_corner) (ls := [some (pR 184), some (pI f), some (pI c), some (pI u)]) rfl rfl rfl rfl rfl ?_
  refine r_aload_n rfl rfl ?_
  refine r_iload_n rfl rfl ?_
  refine r_cV2 rfl (so184 hS) (Nat.le_of_ble_eq_true rfl) rfl rfl (x_is hS hf hX (fun p q => ?_) (fun p0 => ?_))
  · skip
    refine r_if_eq1 rfl ?_
    refine r_iload_n rfl rfl ?_
    refine r_if_lt rfl hc (fun h5 => ?_) (fun h5 => ?_)
    · skip
      refine r_ldc2_w rfl ?_
      refine r_lret rfl ?_
      rw [if_neg (by omega)] at hQ; exact hQ zI zL hz0 hz2
    · skip
      refine r_aload_n rfl rfl ?_
      refine r_iload_n rfl rfl ?_
      refine r_iconst rfl ?_
      refine r_bipush rfl ?_
      refine r_cV4 rfl (so184 hS) (Nat.le_of_ble_eq_true rfl) rfl rfl (x_in hS hu (by unfold inI; omega) (by unfold inI; omega) (fun p2 q2 => ?_) (fun p0 => ?_))
      · skip
        refine r_if_ne1 rfl ?_
        have ef : 0 ≤ f ∧ f < a.1 := ⟨p, by omega⟩
        obtain ⟨⟨hT, -⟩, hR, hS2, -⟩ := hget f p q
        have hc7 : (edL (gN a f) (gI a f) (gJ a f) (gV a f)).length ≤ 700 := hcp f ef.1 ef.2
        have hcm := crL_m (gN a f) (gI a f) (gJ a f) (gV a f)
        obtain ⟨hrg1, hrg2⟩ := hrn f ef.1 ef.2
        refine r_aload_n rfl rfl ?_
        refine r_iload_n rfl rfl ?_
        refine r_cV2 rfl (so184 hS) (Nat.le_of_ble_eq_true rfl) rfl rfl (x_findCorners (d := d) hS (by omega) hT hR hS2 (by omega) (fun z3 z4 f3 f4 hE hC hCR => ?_))
        refine r_iload_n rfl rfl ?_
        refine r_aload_n rfl rfl ?_
        refine r_getI rfl (so184 hS) ?_
        rw [hC.1]
        have hcn0 := hCR.1
        refine r_icmp_lt rfl hc (by unfold inI; omega) (fun h20 => ?_) (fun h20 => ?_)
        · skip
          have hcl : c < (crA a f).1 := h20
          rw [if_pos ⟨ef, h5, ⟨p2, q2⟩, hcl⟩] at hQ
          obtain ⟨hcr, hhd⟩ := hC.2 c h5 hcl
          have hn0 : 0 < gN a f := crL_pos hR.1 (show 0 < (crA a f).1 by omega)
          have hT3 : FM z3 f (gN a f) (gI a f) (gJ a f) (gV a f) := FM_fr hT (fun c c0 c1 => f3.1 c (by omega) (by omega) (by omega))
          have hPBc : PB ((crA a f).2.1 c) ((crA a f).2.2.1 c) ((crA a f).2.2.2.1 c) ((crA a f).2.2.2.2.1 c) := hCR.2 c h5 hcl
          have hct : 0 ≤ countS (gN a f) (gI a f) (gJ a f) (gV a f) ((crA a f).2.1 c) ((crA a f).2.2.1 c) ((crA a f).2.2.2.1 c) ((crA a f).2.2.2.2.1 c) ∧ countS (gN a f) (gI a f) (gJ a f) (gV a f) ((crA a f).2.1 c) ((crA a f).2.2.1 c) ((crA a f).2.2.2.1 c) ((crA a f).2.2.2.2.1 c) ≤ ((gN a f).toNat : Int) := cnt_b _ _ _
          have hn40 := hR.2.1
          have hhb := (crL_had (gN a f) (gI a f) (gJ a f) (gV a f)).2 c h5 hcl
          have hcl2 : c < (crL (gN a f) (gI a f) (gJ a f) (gV a f)).1 := hcl
          refine r_iload_n rfl rfl ?_
          refine r_iconst rfl ?_
          refine r_icmp_ge rfl hu (by unfold inI; omega) (fun h25 => ?_) (fun h25 => ?_)
          · skip
            refine r_aload_n rfl rfl ?_
            refine r_iload_n rfl rfl ?_
            refine r_cV2 rfl (so184 hS) (Nat.le_of_ble_eq_true rfl) rfl rfl (x_standC hS h5 (by omega) ?_)
            have hcr1 := hcr.1
            have hcr2 := hcr.2.1
            have hcr3 := hcr.2.2.1
            have hcr4 := hcr.2.2.2
            rw [hcr1, hcr2, hcr3, hcr4]
            have z5r : ∀ c', c' ≠ 184 → stM z4 ((crL (gN a f) (gI a f) (gJ a f) (gV a f)).2.1 c) ((crL (gN a f) (gI a f) (gJ a f) (gV a f)).2.2.1 c) ((crL (gN a f) (gI a f) (gJ a f) (gV a f)).2.2.2.1 c) ((crL (gN a f) (gI a f) (gJ a f) (gV a f)).2.2.2.2.1 c) c' = z4 c' := fun c' h => stM_row h
            refine r_iload_n rfl rfl ?_
            refine r_iconst rfl ?_
            refine r_icmp_ne rfl hu (by unfold inI; omega) (fun h40 => ?_) (fun h40 => ?_)
            · skip
              refine r_iload_n rfl rfl ?_
              refine r_iconst rfl ?_
              refine r_icmp_ne rfl hu (by unfold inI; omega) (fun h48 => ?_) (fun h48 => ?_)
              · skip
                refine r_aload_n rfl rfl ?_
                refine r_getR rfl (so184 hS) (sr184_35 hS) ?_
                refine r_iload_n rfl rfl ?_
                refine r_iald rfl (sw205 hS) (by omega) (by omega) ?_
                rw [hhd]
                refine r_i2l rfl (by unfold inI; omega) ?_
                refine r_lret rfl ?_
                unfold crV at hQ
                rw [if_neg (by omega), if_neg (by omega), if_neg (by omega)] at hQ
                exact hQ z3 _ (frY_K hz0 f3) (frYL_S (frYL_K hz2 f4) z5r)
              · skip
                refine r_aload_n rfl rfl ?_
                refine r_iload_n rfl rfl ?_
                refine r_iload_n rfl rfl ?_
                refine r_cV3 rfl (so184 hS) (Nat.le_of_ble_eq_true rfl) rfl rfl (x_partArea hS (by omega) hT3 hR (c := c) ⟨h5, by omega⟩ (by rw [z5r 204 (by decide)]; exact hcr) hPBc hn0 (hrg2 c h5 hcl) (fun z6 f6 => ?_))
                refine r_i2l rfl (by have hab := areaS_b (p := fun t => decide (wv (gI a f t) (gJ a f t) (gV a f t) ((crA a f).2.1 c) ((crA a f).2.2.1 c) ((crA a f).2.2.2.1 c) ((crA a f).2.2.2.2.1 c) = leastS (gN a f) (gI a f) (gJ a f) (gV a f) ((crA a f).2.1 c) ((crA a f).2.2.1 c) ((crA a f).2.2.2.1 c) ((crA a f).2.2.2.2.1 c))) hR; show inI (areaC (gN a f) (gI a f) (gJ a f) (gV a f) ((crA a f).2.1 c) ((crA a f).2.2.1 c) ((crA a f).2.2.2.1 c) ((crA a f).2.2.2.2.1 c)); unfold areaC inI; omega) ?_
                refine r_goto rfl ?_
                refine r_lret rfl ?_
                unfold crV at hQ
                rw [if_neg (by omega), if_neg (by omega), if_pos (by omega)] at hQ
                exact hQ z6 _ (frY_R (frY_K hz0 f3) f6) (frYL_S (frYL_S (frYL_K hz2 f4) z5r) (fun c' h => stM_row h))
            · skip
              refine r_aload_n rfl rfl ?_
              refine r_iload_n rfl rfl ?_
              refine r_cV2 rfl (so184 hS) (Nat.le_of_ble_eq_true rfl) rfl rfl (x_countLeast hS (by omega) hT3 hR PM_st hPBc hn0 ?_)
              refine r_i2l rfl (by have h9 := hct; unfold crA at h9; unfold inI; omega) ?_
              refine r_goto rfl ?_
              refine r_lret rfl ?_
              unfold crV at hQ
              rw [if_neg (by omega), if_pos (by omega)] at hQ
              exact hQ z3 _ (frY_K hz0 f3) (frYL_S (frYL_K hz2 f4) z5r)
          · skip
            refine r_aload_n rfl rfl ?_
            refine r_getR rfl (so184 hS) (sr184_34 hS) ?_
            refine r_iconst rfl ?_
            refine r_iload_n rfl rfl ?_
            refine r_imul rfl ?_
            refine r_iload_n rfl rfl ?_
            refine r_iadd rfl ?_
            refine r_lald rfl (sw204 hS) (by omega) (by omega) ?_
            refine r_lret rfl ?_
            rw [show z4 204 (4 * c + u) = crV (gN a f) (gI a f) (gJ a f) (gV a f) (crA a f) c u by
              unfold crV
              rw [if_pos (by omega)]
              exact pt_at hcr ⟨p2, by omega⟩]
            exact hQ z3 z4 (frY_K hz0 f3) (frYL_K hz2 f4)
        · skip
          refine r_ldc2_w rfl ?_
          refine r_lret rfl ?_
          rw [if_neg (fun k => by have h9 := k.2.2.2; unfold crA at h9; omega)] at hQ; exact hQ z3 z4 (frY_K hz0 f3) (frYL_K hz2 f4)
      · skip
        refine r_if_ne0 rfl ?_
        refine r_ldc2_w rfl ?_
        refine r_lret rfl ?_
        rw [if_neg (fun k => p0 k.2.2.1)] at hQ; exact hQ zI zL hz0 hz2
  · skip
    refine r_if_eq0 rfl ?_
    refine r_ldc2_w rfl ?_
    refine r_lret rfl ?_
    rw [if_neg (fun k => p0 ⟨k.1.1, by omega⟩)] at hQ; exact hQ zI zL hz0 hz2
