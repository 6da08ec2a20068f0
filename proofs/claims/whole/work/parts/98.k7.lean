/-! THE LAW: one call of each kind -/
theorem y_meet_out {X : PX} {d : Nat} {S : SS} {zI zL : ZM} {Q : PQ} (hS : Sk S) {a : FA} (hA : MF zI a) (hk : FOK a) {f g i u : Int} (hf : inI f) (hg : inI g) (hno : ¬ ((0 ≤ f ∧ f < a.1) ∧ (0 ≤ g ∧ g < a.1))) (hQ : Q (some (pL NOv)) S zI zL) : wpM X (d + 8) fM_meet [pR 184, pI f, pI g, pI i, pI u] S zI zL Q := by
  have hX := MF_x hA hk
  have hF0 := hA.1
  obtain ⟨kb, hkf⟩ := hk
  have hget : ∀ f, 0 ≤ f → f < zI 184 0 → (FM zI f (gN a f) (gI a f) (gJ a f) (gV a f) ∧ zI 185 f = gK a f) ∧ FR (gN a f) (gI a f) (gJ a f) (gV a f) ∧ FS (gN a f) (gI a f) (gJ a f) ∧ (0 ≤ gK a f ∧ gK a f ≤ 3) ∧ (gK a f = 0 → gN a f ≤ 12) := fun f f0 f1 => ⟨hA.2 f f0 (by omega), hkf f f0 (by omega)⟩
  refine wp_in (C := c_M_meet) (ls := [some (pR 184), some (pI f), some (pI g), some (pI i), some (pI u)]) rfl rfl rfl rfl rfl ?_
  refine r_aload_n rfl rfl ?_
  refine r_iload_n rfl rfl ?_
  refine r_cV2 rfl (so184 hS) (Nat.le_of_ble_eq_true rfl) rfl rfl (x_is hS hf hX (fun p q => ?_) (fun p0 => ?_))
  · skip
    refine r_if_eq1 rfl ?_
    refine r_aload_n rfl rfl ?_
    refine r_iload_n rfl rfl ?_
    refine r_cV2 rfl (so184 hS) (Nat.le_of_ble_eq_true rfl) rfl rfl (x_is hS hg hX (fun p2 q2 => ?_) (fun p0 => ?_))
    · skip
      refine r_if_eq1 rfl ?_
      exact absurd ⟨⟨p, by omega⟩, p2, by omega⟩ hno
    · skip
      refine r_if_eq0 rfl ?_
      refine r_ldc2_w rfl ?_
      refine r_lret rfl ?_
      exact hQ
  · skip
    refine r_if_eq0 rfl ?_
    refine r_ldc2_w rfl ?_
    refine r_lret rfl ?_
    exact hQ
theorem y_meet3 {X : PX} {d : Nat} {S : SS} {zI zL : ZM} {Q : PQ} (hS : Sk S) {a : FA} (hA : MF zI a) (hk : FOK a) (hcp : CPa a) (h8 : M8a a) (hME : MEa a) {f g i u : Int} (hf : inI f) (hg : inI g) (hi : inI i) (hu : inI u) (hQ : ∀ z z2, frW z zI → frQL z2 zL → Q (some (pL (sMee a f g i u))) S z z2) : wpM X (d + 8) fM_meet [pR 184, pI f, pI g, pI i, pI u] S zI zL Q := by
  by_cases hr : (0 ≤ f ∧ f < a.1) ∧ (0 ≤ g ∧ g < a.1)
  · refine y_meet hS hA hk hcp h8 hf hg hi hu (fun ms hm t t0 t1 => ?_) hQ
    rcases hME f g hr.1.1 hr.1.2 hr.2.1 hr.2.2 with ⟨m1, m2⟩ | ⟨ms', ms3, m1, m2, m3, m4⟩
    · rw [m2] at hm; cases hm
    · rw [m2] at hm
      have e := Option.some.inj hm
      rw [e] at m4
      exact (m4 t t0 t1).2
  · refine y_meet_out hS hA hk hf hg hr ?_
    have e : sMee a f g i u = NOv := by unfold sMee; rw [if_neg (fun k => hr ⟨k.1, k.2.1⟩)]
    rw [← e]
    exact hQ zI zL (frW_r _) (frQL_r _)
theorem i64_b (v : Int64) : inL v.toInt := by
  have h1 := v.le_toInt
  have h2 := v.toInt_lt
  unfold inL
  omega
theorem wr_b {a : FA} {f rn : Int} {r : Int → Int} (hk : FOK a) (h : ∀ k, 0 ≤ k → k < rn → inL (r k)) : ∀ k, 0 ≤ k → k < nWrN a f rn → inL (nWrR a f r k) := by
  intro k k0 k1
  unfold nWrN at k1
  unfold nWrR
  by_cases e : 0 ≤ f ∧ f < a.1
  · rw [if_pos e] at k1 ⊢
    have := prA_b hk e k0 k1
    unfold inL; omega
  · rw [if_neg e] at k1 ⊢
    exact h k k0 k1
theorem fo_b {rn i v : Int} {r : Int → Int} (h : ∀ k, 0 ≤ k → k < rn → inL (r k)) (hv : inL v) : ∀ k, 0 ≤ k → k < rn → inL (nFog rn r i v k) := by
  intro k k0 k1
  unfold nFog
  split
  · unfold updF
    split
    · exact hv
    · exact h k k0 k1
  · exact h k k0 k1
set_option maxRecDepth 100000 in
set_option maxHeartbeats 1000000 in
theorem lw_0 {X : PX} {d : Nat} {S : SS} {zI zL : ZM} {Q : PQ} {mc ms : Nat} {i rn : Int} {a : FA} {r : Int → Int} {t : List Int} {s : SA} (hX : xsOK X) (hS : Sk S) (hm : MATHS) (hL : (X 0).1 ≤ 100000) (hi0 : 0 ≤ i) (hi1 : i + 6 ≤ ((X 0).1 : Int)) (hin : ∀ k, inI ((X 0).2 k)) (hst : IV S zI zL a rn r t s) (nx : ∀ z y a rn r t s, IV S z y a rn r t s → Run X (d + 9) c_Law_law 1086 [some (pR xbase), some (pR 0), some (pR 184), some (pI i)] [] S z y mc ms Q) : Run X (d + 9) c_Law_law 22 [some (pR xbase), some (pR 0), some (pR 184), some (pI i)] [] S zI zL mc ms Q := by
  have hC := hst.1.1
  have hR := hst.1.2.1
  have hT := hst.1.2.2.1
  have hSh := hst.1.2.2.2
  have hG := hst.2.2
  have hk := hG.1
  have hrn := hG.2.1
  have hok := hG.2.2.2.2
  obtain ⟨hCP, hID, hRG, hAM, hDR, hME, h8⟩ := hm a hk
  refine r_aload_n rfl rfl ?_
  refine r_cV1 rfl (so0 hS) (Nat.le_of_ble_eq_true rfl) rfl rfl (c_form (d := d + 6) hS hC hk (fun z1 f1 g1 => ?_))
  have hCI := ci_Va hst.1 f1 g1
  have hMI := mi_Va hst.2.1 f1
  refine r_aload_n rfl rfl ?_
  refine r_cV1 rfl (so184 hS) (Nat.le_of_ble_eq_true rfl) rfl rfl (y_form2 (d := d + 8) hS hMI.1 hk (fun z2 e1 e2 => ?_))
  refine r_icmp_same rfl ?_
  exact nx z2 zL _ rn r t s (rX hCI hMI hG (FOK_nFor hk) e1 e2)
set_option maxRecDepth 100000 in
set_option maxHeartbeats 1000000 in
theorem lw_1 {X : PX} {d : Nat} {S : SS} {zI zL : ZM} {Q : PQ} {mc ms : Nat} {i rn : Int} {a : FA} {r : Int → Int} {t : List Int} {s : SA} (hX : xsOK X) (hS : Sk S) (hm : MATHS) (hL : (X 0).1 ≤ 100000) (hi0 : 0 ≤ i) (hi1 : i + 6 ≤ ((X 0).1 : Int)) (hin : ∀ k, inI ((X 0).2 k)) (hst : IV S zI zL a rn r t s) (nx : ∀ z y a rn r t s, IV S z y a rn r t s → Run X (d + 9) c_Law_law 1086 [some (pR xbase), some (pR 0), some (pR 184), some (pI i)] [] S z y mc ms Q) : Run X (d + 9) c_Law_law 29 [some (pR xbase), some (pR 0), some (pR 184), some (pI i)] [] S zI zL mc ms Q := by
  have hC := hst.1.1
  have hR := hst.1.2.1
  have hT := hst.1.2.2.1
  have hSh := hst.1.2.2.2
  have hG := hst.2.2
  have hk := hG.1
  have hrn := hG.2.1
  have hok := hG.2.2.2.2
  obtain ⟨hCP, hID, hRG, hAM, hDR, hME, h8⟩ := hm a hk
  refine r_aload_n rfl rfl ?_
  refine r_aload_n rfl rfl ?_
  refine r_iload_n rfl rfl ?_
  refine r_iconst rfl ?_
  refine r_iadd rfl ?_
  refine r_ixld (e := 0) rfl (by decide) hL (by omega) (by omega) ?_
  refine r_aload_n rfl rfl ?_
  refine r_iload_n rfl rfl ?_
  refine r_iconst rfl ?_
  refine r_iadd rfl ?_
  refine r_ixld (e := 0) rfl (by decide) hL (by omega) (by omega) ?_
  refine r_aload_n rfl rfl ?_
  refine r_iload_n rfl rfl ?_
  refine r_iconst rfl ?_
  refine r_iadd rfl ?_
  refine r_ixld (e := 0) rfl (by decide) hL (by omega) (by omega) ?_
  refine r_aload_n rfl rfl ?_
  refine r_iload_n rfl rfl ?_
  refine r_iconst rfl ?_
  refine r_iadd rfl ?_
  refine r_ixld (e := 0) rfl (by decide) hL (by omega) (by omega) ?_
  refine r_cV5 rfl (so0 hS) (Nat.le_of_ble_eq_true rfl) rfl rfl (c_term (d := d + 6) hS hC hk (hin _) (hin _) (hin _) (hin _) (fun z1 f1 g1 => ?_))
  have hCI := ci_Va hst.1 f1 g1
  have hMI := mi_Va hst.2.1 f1
  refine r_aload_n rfl rfl ?_
  refine r_aload_n rfl rfl ?_
  refine r_iload_n rfl rfl ?_
  refine r_iconst rfl ?_
  refine r_iadd rfl ?_
  refine r_ixld (e := 0) rfl (by decide) hL (by omega) (by omega) ?_
  refine r_aload_n rfl rfl ?_
  refine r_iload_n rfl rfl ?_
  refine r_iconst rfl ?_
  refine r_iadd rfl ?_
  refine r_ixld (e := 0) rfl (by decide) hL (by omega) (by omega) ?_
  refine r_aload_n rfl rfl ?_
  refine r_iload_n rfl rfl ?_
  refine r_iconst rfl ?_
  refine r_iadd rfl ?_
  refine r_ixld (e := 0) rfl (by decide) hL (by omega) (by omega) ?_
  refine r_aload_n rfl rfl ?_
  refine r_iload_n rfl rfl ?_
  refine r_iconst rfl ?_
  refine r_iadd rfl ?_
  refine r_ixld (e := 0) rfl (by decide) hL (by omega) (by omega) ?_
  refine r_cV5 rfl (so184 hS) (Nat.le_of_ble_eq_true rfl) rfl rfl (y_term2 (d := d + 6) hS hMI.1 hk (hin _) (hin _) (hin _) (hin _) (fun z2 e1 e2 => ?_))
  refine r_icmp_same rfl ?_
  exact nx z2 zL _ rn r t s (rX hCI hMI hG (FOK_nTer hk _ _ _ _) e1 e2)
set_option maxRecDepth 100000 in
set_option maxHeartbeats 1000000 in
theorem lw_2 {X : PX} {d : Nat} {S : SS} {zI zL : ZM} {Q : PQ} {mc ms : Nat} {i rn : Int} {a : FA} {r : Int → Int} {t : List Int} {s : SA} (hX : xsOK X) (hS : Sk S) (hm : MATHS) (hL : (X 0).1 ≤ 100000) (hi0 : 0 ≤ i) (hi1 : i + 6 ≤ ((X 0).1 : Int)) (hin : ∀ k, inI ((X 0).2 k)) (hst : IV S zI zL a rn r t s) (nx : ∀ z y a rn r t s, IV S z y a rn r t s → Run X (d + 9) c_Law_law 1086 [some (pR xbase), some (pR 0), some (pR 184), some (pI i)] [] S z y mc ms Q) : Run X (d + 9) c_Law_law 76 [some (pR xbase), some (pR 0), some (pR 184), some (pI i)] [] S zI zL mc ms Q := by
  have hC := hst.1.1
  have hR := hst.1.2.1
  have hT := hst.1.2.2.1
  have hSh := hst.1.2.2.2
  have hG := hst.2.2
  have hk := hG.1
  have hrn := hG.2.1
  have hok := hG.2.2.2.2
  obtain ⟨hCP, hID, hRG, hAM, hDR, hME, h8⟩ := hm a hk
  refine r_aload_n rfl rfl ?_
  refine r_aload_n rfl rfl ?_
  refine r_iload_n rfl rfl ?_
  refine r_iconst rfl ?_
  refine r_iadd rfl ?_
  refine r_ixld (e := 0) rfl (by decide) hL (by omega) (by omega) ?_
  refine r_aload_n rfl rfl ?_
  refine r_iload_n rfl rfl ?_
  refine r_iconst rfl ?_
  refine r_iadd rfl ?_
  refine r_ixld (e := 0) rfl (by decide) hL (by omega) (by omega) ?_
  refine r_aload_n rfl rfl ?_
  refine r_iload_n rfl rfl ?_
  refine r_iconst rfl ?_
  refine r_iadd rfl ?_
  refine r_ixld (e := 0) rfl (by decide) hL (by omega) (by omega) ?_
  refine r_cV4 rfl (so0 hS) (Nat.le_of_ble_eq_true rfl) rfl rfl (c_take (d := d + 5) hS hC hk (hin _) (hin _) (hin _) (fun z1 f1 g1 => ?_))
  have hCI := ci_Va hst.1 f1 g1
  have hMI := mi_Va hst.2.1 f1
  refine r_aload_n rfl rfl ?_
  refine r_aload_n rfl rfl ?_
  refine r_iload_n rfl rfl ?_
  refine r_iconst rfl ?_
  refine r_iadd rfl ?_
  refine r_ixld (e := 0) rfl (by decide) hL (by omega) (by omega) ?_
  refine r_aload_n rfl rfl ?_
  refine r_iload_n rfl rfl ?_
  refine r_iconst rfl ?_
  refine r_iadd rfl ?_
  refine r_ixld (e := 0) rfl (by decide) hL (by omega) (by omega) ?_
  refine r_aload_n rfl rfl ?_
  refine r_iload_n rfl rfl ?_
  refine r_iconst rfl ?_
  refine r_iadd rfl ?_
  refine r_ixld (e := 0) rfl (by decide) hL (by omega) (by omega) ?_
  refine r_cV4 rfl (so184 hS) (Nat.le_of_ble_eq_true rfl) rfl rfl (y_take2 (d := d + 6) hS hMI.1 hk (hin _) (hin _) (hin _) (fun z2 e1 e2 => ?_))
  refine r_icmp_same rfl ?_
  exact nx z2 zL _ rn r t s (rX hCI hMI hG (FOK_nTke hk _ _ _) e1 e2)
set_option maxRecDepth 100000 in
set_option maxHeartbeats 1000000 in
theorem lw_3 {X : PX} {d : Nat} {S : SS} {zI zL : ZM} {Q : PQ} {mc ms : Nat} {i rn : Int} {a : FA} {r : Int → Int} {t : List Int} {s : SA} (hX : xsOK X) (hS : Sk S) (hm : MATHS) (hL : (X 0).1 ≤ 100000) (hi0 : 0 ≤ i) (hi1 : i + 6 ≤ ((X 0).1 : Int)) (hin : ∀ k, inI ((X 0).2 k)) (hst : IV S zI zL a rn r t s) (nx : ∀ z y a rn r t s, IV S z y a rn r t s → Run X (d + 9) c_Law_law 1086 [some (pR xbase), some (pR 0), some (pR 184), some (pI i)] [] S z y mc ms Q) : Run X (d + 9) c_Law_law 113 [some (pR xbase), some (pR 0), some (pR 184), some (pI i)] [] S zI zL mc ms Q := by
  have hC := hst.1.1
  have hR := hst.1.2.1
  have hT := hst.1.2.2.1
  have hSh := hst.1.2.2.2
  have hG := hst.2.2
  have hk := hG.1
  have hrn := hG.2.1
  have hok := hG.2.2.2.2
  obtain ⟨hCP, hID, hRG, hAM, hDR, hME, h8⟩ := hm a hk
  refine r_aload_n rfl rfl ?_
  refine r_aload_n rfl rfl ?_
  refine r_iload_n rfl rfl ?_
  refine r_iconst rfl ?_
  refine r_iadd rfl ?_
  refine r_ixld (e := 0) rfl (by decide) hL (by omega) (by omega) ?_
  refine r_aload_n rfl rfl ?_
  refine r_iload_n rfl rfl ?_
  refine r_iconst rfl ?_
  refine r_iadd rfl ?_
  refine r_ixld (e := 0) rfl (by decide) hL (by omega) (by omega) ?_
  refine r_cV3 rfl (so0 hS) (Nat.le_of_ble_eq_true rfl) rfl rfl (c_sum (d := d + 4) hS hC hk (hin _) (hin _) (fun z1 f1 g1 k1 => ?_))
  have hCI := ci_Va hst.1 f1 g1
  have hMI := mi_Va hst.2.1 f1
  refine r_aload_n rfl rfl ?_
  refine r_aload_n rfl rfl ?_
  refine r_iload_n rfl rfl ?_
  refine r_iconst rfl ?_
  refine r_iadd rfl ?_
  refine r_ixld (e := 0) rfl (by decide) hL (by omega) (by omega) ?_
  refine r_aload_n rfl rfl ?_
  refine r_iload_n rfl rfl ?_
  refine r_iconst rfl ?_
  refine r_iadd rfl ?_
  refine r_ixld (e := 0) rfl (by decide) hL (by omega) (by omega) ?_
  refine r_cV3 rfl (so184 hS) (Nat.le_of_ble_eq_true rfl) rfl rfl (y_sum2 (d := d + 6) hS hMI.1 hk (hin _) (hin _) (fun z2 e1 e2 => ?_))
  refine r_icmp_same rfl ?_
  exact nx z2 zL _ rn r t s (rX hCI hMI hG k1 e1 e2)
set_option maxRecDepth 100000 in
set_option maxHeartbeats 1000000 in
theorem lw_4 {X : PX} {d : Nat} {S : SS} {zI zL : ZM} {Q : PQ} {mc ms : Nat} {i rn : Int} {a : FA} {r : Int → Int} {t : List Int} {s : SA} (hX : xsOK X) (hS : Sk S) (hm : MATHS) (hL : (X 0).1 ≤ 100000) (hi0 : 0 ≤ i) (hi1 : i + 6 ≤ ((X 0).1 : Int)) (hin : ∀ k, inI ((X 0).2 k)) (hst : IV S zI zL a rn r t s) (nx : ∀ z y a rn r t s, IV S z y a rn r t s → Run X (d + 9) c_Law_law 1086 [some (pR xbase), some (pR 0), some (pR 184), some (pI i)] [] S z y mc ms Q) : Run X (d + 9) c_Law_law 140 [some (pR xbase), some (pR 0), some (pR 184), some (pI i)] [] S zI zL mc ms Q := by
  have hC := hst.1.1
  have hR := hst.1.2.1
  have hT := hst.1.2.2.1
  have hSh := hst.1.2.2.2
  have hG := hst.2.2
  have hk := hG.1
  have hrn := hG.2.1
  have hok := hG.2.2.2.2
  obtain ⟨hCP, hID, hRG, hAM, hDR, hME, h8⟩ := hm a hk
  refine r_aload_n rfl rfl ?_
  refine r_aload_n rfl rfl ?_
  refine r_iload_n rfl rfl ?_
  refine r_iconst rfl ?_
  refine r_iadd rfl ?_
  refine r_ixld (e := 0) rfl (by decide) hL (by omega) (by omega) ?_
  refine r_aload_n rfl rfl ?_
  refine r_iload_n rfl rfl ?_
  refine r_iconst rfl ?_
  refine r_iadd rfl ?_
  refine r_ixld (e := 0) rfl (by decide) hL (by omega) (by omega) ?_
  refine r_cV3 rfl (so0 hS) (Nat.le_of_ble_eq_true rfl) rfl rfl (c_power (d := d + 4) hS hC hk (hin _) (hin _) (fun z1 f1 g1 k1 => ?_))
  have hCI := ci_Va hst.1 f1 g1
  have hMI := mi_Va hst.2.1 f1
  refine r_aload_n rfl rfl ?_
  refine r_aload_n rfl rfl ?_
  refine r_iload_n rfl rfl ?_
  refine r_iconst rfl ?_
  refine r_iadd rfl ?_
  refine r_ixld (e := 0) rfl (by decide) hL (by omega) (by omega) ?_
  refine r_aload_n rfl rfl ?_
  refine r_iload_n rfl rfl ?_
  refine r_iconst rfl ?_
  refine r_iadd rfl ?_
  refine r_ixld (e := 0) rfl (by decide) hL (by omega) (by omega) ?_
  refine r_cV3 rfl (so184 hS) (Nat.le_of_ble_eq_true rfl) rfl rfl (y_power2 (d := d + 6) hS hMI.1 hk (hin _) (hin _) (fun z2 e1 e2 => ?_))
  refine r_icmp_same rfl ?_
  exact nx z2 zL _ rn r t s (rX hCI hMI hG k1 e1 e2)
set_option maxRecDepth 100000 in
set_option maxHeartbeats 1000000 in
theorem lw_5 {X : PX} {d : Nat} {S : SS} {zI zL : ZM} {Q : PQ} {mc ms : Nat} {i rn : Int} {a : FA} {r : Int → Int} {t : List Int} {s : SA} (hX : xsOK X) (hS : Sk S) (hm : MATHS) (hL : (X 0).1 ≤ 100000) (hi0 : 0 ≤ i) (hi1 : i + 6 ≤ ((X 0).1 : Int)) (hin : ∀ k, inI ((X 0).2 k)) (hst : IV S zI zL a rn r t s) (nx : ∀ z y a rn r t s, IV S z y a rn r t s → Run X (d + 9) c_Law_law 1086 [some (pR xbase), some (pR 0), some (pR 184), some (pI i)] [] S z y mc ms Q) : Run X (d + 9) c_Law_law 167 [some (pR xbase), some (pR 0), some (pR 184), some (pI i)] [] S zI zL mc ms Q := by
  have hC := hst.1.1
  have hR := hst.1.2.1
  have hT := hst.1.2.2.1
  have hSh := hst.1.2.2.2
  have hG := hst.2.2
  have hk := hG.1
  have hrn := hG.2.1
  have hok := hG.2.2.2.2
  obtain ⟨hCP, hID, hRG, hAM, hDR, hME, h8⟩ := hm a hk
  refine r_aload_n rfl rfl ?_
  refine r_aload_n rfl rfl ?_
  refine r_iload_n rfl rfl ?_
  refine r_iconst rfl ?_
  refine r_iadd rfl ?_
  refine r_ixld (e := 0) rfl (by decide) hL (by omega) (by omega) ?_
  refine r_aload_n rfl rfl ?_
  refine r_iload_n rfl rfl ?_
  refine r_iconst rfl ?_
  refine r_iadd rfl ?_
  refine r_ixld (e := 0) rfl (by decide) hL (by omega) (by omega) ?_
  refine r_aload_n rfl rfl ?_
  refine r_iload_n rfl rfl ?_
  refine r_iconst rfl ?_
  refine r_iadd rfl ?_
  refine r_ixld (e := 0) rfl (by decide) hL (by omega) (by omega) ?_
  refine r_cV4 rfl (so0 hS) (Nat.le_of_ble_eq_true rfl) rfl rfl (c_move (d := d + 4) hS hC hk (hin _) (hin _) (hin _) (fun z1 f1 g1 k1 => ?_))
  have hCI := ci_Va hst.1 f1 g1
  have hMI := mi_Va hst.2.1 f1
  refine r_aload_n rfl rfl ?_
  refine r_aload_n rfl rfl ?_
  refine r_iload_n rfl rfl ?_
  refine r_iconst rfl ?_
  refine r_iadd rfl ?_
  refine r_ixld (e := 0) rfl (by decide) hL (by omega) (by omega) ?_
  refine r_aload_n rfl rfl ?_
  refine r_iload_n rfl rfl ?_
  refine r_iconst rfl ?_
  refine r_iadd rfl ?_
  refine r_ixld (e := 0) rfl (by decide) hL (by omega) (by omega) ?_
  refine r_aload_n rfl rfl ?_
  refine r_iload_n rfl rfl ?_
  refine r_iconst rfl ?_
  refine r_iadd rfl ?_
  refine r_ixld (e := 0) rfl (by decide) hL (by omega) (by omega) ?_
  refine r_cV4 rfl (so184 hS) (Nat.le_of_ble_eq_true rfl) rfl rfl (y_move2 (d := d + 6) hS hMI.1 hk (hin _) (hin _) (hin _) (fun z2 e1 e2 => ?_))
  refine r_icmp_same rfl ?_
  exact nx z2 zL _ rn r t s (rX hCI hMI hG k1 e1 e2)
set_option maxRecDepth 100000 in
set_option maxHeartbeats 1000000 in
theorem lw_6 {X : PX} {d : Nat} {S : SS} {zI zL : ZM} {Q : PQ} {mc ms : Nat} {i rn : Int} {a : FA} {r : Int → Int} {t : List Int} {s : SA} (hX : xsOK X) (hS : Sk S) (hm : MATHS) (hL : (X 0).1 ≤ 100000) (hi0 : 0 ≤ i) (hi1 : i + 6 ≤ ((X 0).1 : Int)) (hin : ∀ k, inI ((X 0).2 k)) (hst : IV S zI zL a rn r t s) (nx : ∀ z y a rn r t s, IV S z y a rn r t s → Run X (d + 9) c_Law_law 1086 [some (pR xbase), some (pR 0), some (pR 184), some (pI i)] [] S z y mc ms Q) : Run X (d + 9) c_Law_law 204 [some (pR xbase), some (pR 0), some (pR 184), some (pI i)] [] S zI zL mc ms Q := by
  have hC := hst.1.1
  have hR := hst.1.2.1
  have hT := hst.1.2.2.1
  have hSh := hst.1.2.2.2
  have hG := hst.2.2
  have hk := hG.1
  have hrn := hG.2.1
  have hok := hG.2.2.2.2
  obtain ⟨hCP, hID, hRG, hAM, hDR, hME, h8⟩ := hm a hk
  refine r_aload_n rfl rfl ?_
  refine r_aload_n rfl rfl ?_
  refine r_iload_n rfl rfl ?_
  refine r_iconst rfl ?_
  refine r_iadd rfl ?_
  refine r_ixld (e := 0) rfl (by decide) hL (by omega) (by omega) ?_
  refine r_aload_n rfl rfl ?_
  refine r_iload_n rfl rfl ?_
  refine r_iconst rfl ?_
  refine r_iadd rfl ?_
  refine r_ixld (e := 0) rfl (by decide) hL (by omega) (by omega) ?_
  refine r_aload_n rfl rfl ?_
  refine r_iload_n rfl rfl ?_
  refine r_iconst rfl ?_
  refine r_iadd rfl ?_
  refine r_ixld (e := 0) rfl (by decide) hL (by omega) (by omega) ?_
  refine r_aload_n rfl rfl ?_
  refine r_iload_n rfl rfl ?_
  refine r_iconst rfl ?_
  refine r_iadd rfl ?_
  refine r_ixld (e := 0) rfl (by decide) hL (by omega) (by omega) ?_
  refine r_cV5 rfl (so0 hS) (Nat.le_of_ble_eq_true rfl) rfl rfl (c_hide (d := d + 4) hS hC hk hSh hok (hin _) (hin _) (hin _) (hin _) (fun z1 f1 g1 k1 => ?_))
  have hCI := ci_Va hst.1 f1 g1
  have hMI := mi_Va hst.2.1 f1
  refine r_aload_n rfl rfl ?_
  refine r_aload_n rfl rfl ?_
  refine r_iload_n rfl rfl ?_
  refine r_iconst rfl ?_
  refine r_iadd rfl ?_
  refine r_ixld (e := 0) rfl (by decide) hL (by omega) (by omega) ?_
  refine r_aload_n rfl rfl ?_
  refine r_iload_n rfl rfl ?_
  refine r_iconst rfl ?_
  refine r_iadd rfl ?_
  refine r_ixld (e := 0) rfl (by decide) hL (by omega) (by omega) ?_
  refine r_aload_n rfl rfl ?_
  refine r_iload_n rfl rfl ?_
  refine r_iconst rfl ?_
  refine r_iadd rfl ?_
  refine r_ixld (e := 0) rfl (by decide) hL (by omega) (by omega) ?_
  refine r_aload_n rfl rfl ?_
  refine r_iload_n rfl rfl ?_
  refine r_iconst rfl ?_
  refine r_iadd rfl ?_
  refine r_ixld (e := 0) rfl (by decide) hL (by omega) (by omega) ?_
  refine r_cV5 rfl (so184 hS) (Nat.le_of_ble_eq_true rfl) rfl rfl (y_hide2 (d := d + 7) hS hMI.1 hk hMI.2.2.2 hok (hin _) (hin _) (hin _) (hin _) (fun z2 e1 e2 => ?_))
  refine r_icmp_same rfl ?_
  exact nx z2 zL _ rn r t s (rX hCI hMI hG k1 e1 e2)
set_option maxRecDepth 100000 in
set_option maxHeartbeats 1000000 in
theorem lw_7 {X : PX} {d : Nat} {S : SS} {zI zL : ZM} {Q : PQ} {mc ms : Nat} {i rn : Int} {a : FA} {r : Int → Int} {t : List Int} {s : SA} (hX : xsOK X) (hS : Sk S) (hm : MATHS) (hL : (X 0).1 ≤ 100000) (hi0 : 0 ≤ i) (hi1 : i + 6 ≤ ((X 0).1 : Int)) (hin : ∀ k, inI ((X 0).2 k)) (hst : IV S zI zL a rn r t s) (nx : ∀ z y a rn r t s, IV S z y a rn r t s → Run X (d + 9) c_Law_law 1086 [some (pR xbase), some (pR 0), some (pR 184), some (pI i)] [] S z y mc ms Q) : Run X (d + 9) c_Law_law 251 [some (pR xbase), some (pR 0), some (pR 184), some (pI i)] [] S zI zL mc ms Q := by
  have hC := hst.1.1
  have hR := hst.1.2.1
  have hT := hst.1.2.2.1
  have hSh := hst.1.2.2.2
  have hG := hst.2.2
  have hk := hG.1
  have hrn := hG.2.1
  have hok := hG.2.2.2.2
  obtain ⟨hCP, hID, hRG, hAM, hDR, hME, h8⟩ := hm a hk
  refine r_aload_n rfl rfl ?_
  refine r_cV1 rfl (so0 hS) (Nat.le_of_ble_eq_true rfl) rfl rfl (c_drop (d := d + 8) hS hC hk (fun z1 f1 g1 => ?_))
  have hCI := ci_Va hst.1 f1 g1
  have hMI := mi_Va hst.2.1 f1
  refine r_aload_n rfl rfl ?_
  refine r_cV1 rfl (so184 hS) (Nat.le_of_ble_eq_true rfl) rfl rfl (y_drop2 (d := d + 8) hS hMI.1 hk (fun z2 e1 e2 => ?_))
  refine r_icmp_same rfl ?_
  exact nx z2 zL _ rn r t s (rX hCI hMI hG (FOK_nDro hk) e1 e2)
set_option maxRecDepth 100000 in
set_option maxHeartbeats 1000000 in
theorem lw_8 {X : PX} {d : Nat} {S : SS} {zI zL : ZM} {Q : PQ} {mc ms : Nat} {i rn : Int} {a : FA} {r : Int → Int} {t : List Int} {s : SA} (hX : xsOK X) (hS : Sk S) (hm : MATHS) (hL : (X 0).1 ≤ 100000) (hi0 : 0 ≤ i) (hi1 : i + 6 ≤ ((X 0).1 : Int)) (hin : ∀ k, inI ((X 0).2 k)) (hst : IV S zI zL a rn r t s) (nx : ∀ z y a rn r t s, IV S z y a rn r t s → Run X (d + 9) c_Law_law 1086 [some (pR xbase), some (pR 0), some (pR 184), some (pI i)] [] S z y mc ms Q) : Run X (d + 9) c_Law_law 258 [some (pR xbase), some (pR 0), some (pR 184), some (pI i)] [] S zI zL mc ms Q := by
  have hC := hst.1.1
  have hR := hst.1.2.1
  have hT := hst.1.2.2.1
  have hSh := hst.1.2.2.2
  have hG := hst.2.2
  have hk := hG.1
  have hrn := hG.2.1
  have hok := hG.2.2.2.2
  obtain ⟨hCP, hID, hRG, hAM, hDR, hME, h8⟩ := hm a hk
  refine r_aload_n rfl rfl ?_
  refine r_aload_n rfl rfl ?_
  refine r_iload_n rfl rfl ?_
  refine r_iconst rfl ?_
  refine r_iadd rfl ?_
  refine r_ixld (e := 0) rfl (by decide) hL (by omega) (by omega) ?_
  refine r_aload_n rfl rfl ?_
  refine r_iload_n rfl rfl ?_
  refine r_iconst rfl ?_
  refine r_iadd rfl ?_
  refine r_ixld (e := 0) rfl (by decide) hL (by omega) (by omega) ?_
  refine r_cV3 rfl (so0 hS) (Nat.le_of_ble_eq_true rfl) rfl rfl (c_told (d := d + 2) hS hC hk (hin _) (hin _) hDR (fun z1 y1 f1 f2 g1 => ?_))
  have hCI := ci_V hst.1 f1 f2 g1
  have hMI := mi_V hst.2.1 f1 f2
  refine r_aload_n rfl rfl ?_
  refine r_aload_n rfl rfl ?_
  refine r_iload_n rfl rfl ?_
  refine r_iconst rfl ?_
  refine r_iadd rfl ?_
  refine r_ixld (e := 0) rfl (by decide) hL (by omega) (by omega) ?_
  refine r_aload_n rfl rfl ?_
  refine r_iload_n rfl rfl ?_
  refine r_iconst rfl ?_
  refine r_iadd rfl ?_
  refine r_ixld (e := 0) rfl (by decide) hL (by omega) (by omega) ?_
  refine r_cV3 rfl (so184 hS) (Nat.le_of_ble_eq_true rfl) rfl rfl (y_told (d := d + 3) hS hMI.1 hk hCP hID hRG (hin _) (hin _) (fun z2 y2 e1 e2 => ?_))
  refine r_icmp_same rfl ?_
  exact nx z2 y2 _ rn r t s (rY hCI hMI hG e1 e2)
set_option maxRecDepth 100000 in
set_option maxHeartbeats 1000000 in
theorem lw_9 {X : PX} {d : Nat} {S : SS} {zI zL : ZM} {Q : PQ} {mc ms : Nat} {i rn : Int} {a : FA} {r : Int → Int} {t : List Int} {s : SA} (hX : xsOK X) (hS : Sk S) (hm : MATHS) (hL : (X 0).1 ≤ 100000) (hi0 : 0 ≤ i) (hi1 : i + 6 ≤ ((X 0).1 : Int)) (hin : ∀ k, inI ((X 0).2 k)) (hst : IV S zI zL a rn r t s) (nx : ∀ z y a rn r t s, IV S z y a rn r t s → Run X (d + 9) c_Law_law 1086 [some (pR xbase), some (pR 0), some (pR 184), some (pI i)] [] S z y mc ms Q) : Run X (d + 9) c_Law_law 285 [some (pR xbase), some (pR 0), some (pR 184), some (pI i)] [] S zI zL mc ms Q := by
  have hC := hst.1.1
  have hR := hst.1.2.1
  have hT := hst.1.2.2.1
  have hSh := hst.1.2.2.2
  have hG := hst.2.2
  have hk := hG.1
  have hrn := hG.2.1
  have hok := hG.2.2.2.2
  obtain ⟨hCP, hID, hRG, hAM, hDR, hME, h8⟩ := hm a hk
  refine r_aload_n rfl rfl ?_
  refine r_aload_n rfl rfl ?_
  refine r_iload_n rfl rfl ?_
  refine r_iconst rfl ?_
  refine r_iadd rfl ?_
  refine r_ixld (e := 0) rfl (by decide) hL (by omega) (by omega) ?_
  refine r_aload_n rfl rfl ?_
  refine r_iload_n rfl rfl ?_
  refine r_iconst rfl ?_
  refine r_iadd rfl ?_
  refine r_ixld (e := 0) rfl (by decide) hL (by omega) (by omega) ?_
  refine r_aload_n rfl rfl ?_
  refine r_iload_n rfl rfl ?_
  refine r_iconst rfl ?_
  refine r_iadd rfl ?_
  refine r_ixld (e := 0) rfl (by decide) hL (by omega) (by omega) ?_
  refine r_cV4 rfl (so0 hS) (Nat.le_of_ble_eq_true rfl) rfl rfl (c_number (d := d + 5) hS hC hk (hin _) (hin _) (hin _) ?_)
  have hCI := hst.1
  have hMI := hst.2.1
  refine r_aload_n rfl rfl ?_
  refine r_aload_n rfl rfl ?_
  refine r_iload_n rfl rfl ?_
  refine r_iconst rfl ?_
  refine r_iadd rfl ?_
  refine r_ixld (e := 0) rfl (by decide) hL (by omega) (by omega) ?_
  refine r_aload_n rfl rfl ?_
  refine r_iload_n rfl rfl ?_
  refine r_iconst rfl ?_
  refine r_iadd rfl ?_
  refine r_ixld (e := 0) rfl (by decide) hL (by omega) (by omega) ?_
  refine r_aload_n rfl rfl ?_
  refine r_iload_n rfl rfl ?_
  refine r_iconst rfl ?_
  refine r_iadd rfl ?_
  refine r_ixld (e := 0) rfl (by decide) hL (by omega) (by omega) ?_
  refine r_cV4 rfl (so184 hS) (Nat.le_of_ble_eq_true rfl) rfl rfl (y_number (d := d + 6) hS hMI.1 hk (hin _) (hin _) (hin _) ?_)
  refine r_icmp_same rfl ?_
  exact nx zI zL _ rn r t s (r0 hCI hMI hG)
set_option maxRecDepth 100000 in
set_option maxHeartbeats 1000000 in
theorem lw_10 {X : PX} {d : Nat} {S : SS} {zI zL : ZM} {Q : PQ} {mc ms : Nat} {i rn : Int} {a : FA} {r : Int → Int} {t : List Int} {s : SA} (hX : xsOK X) (hS : Sk S) (hm : MATHS) (hL : (X 0).1 ≤ 100000) (hi0 : 0 ≤ i) (hi1 : i + 6 ≤ ((X 0).1 : Int)) (hin : ∀ k, inI ((X 0).2 k)) (hst : IV S zI zL a rn r t s) (nx : ∀ z y a rn r t s, IV S z y a rn r t s → Run X (d + 9) c_Law_law 1086 [some (pR xbase), some (pR 0), some (pR 184), some (pI i)] [] S z y mc ms Q) : Run X (d + 9) c_Law_law 322 [some (pR xbase), some (pR 0), some (pR 184), some (pI i)] [] S zI zL mc ms Q := by
  have hC := hst.1.1
  have hR := hst.1.2.1
  have hT := hst.1.2.2.1
  have hSh := hst.1.2.2.2
  have hG := hst.2.2
  have hk := hG.1
  have hrn := hG.2.1
  have hok := hG.2.2.2.2
  obtain ⟨hCP, hID, hRG, hAM, hDR, hME, h8⟩ := hm a hk
  refine r_aload_n rfl rfl ?_
  refine r_aload_n rfl rfl ?_
  refine r_iload_n rfl rfl ?_
  refine r_iconst rfl ?_
  refine r_iadd rfl ?_
  refine r_ixld (e := 0) rfl (by decide) hL (by omega) (by omega) ?_
  refine r_aload_n rfl rfl ?_
  refine r_iload_n rfl rfl ?_
  refine r_iconst rfl ?_
  refine r_iadd rfl ?_
  refine r_ixld (e := 0) rfl (by decide) hL (by omega) (by omega) ?_
  refine r_aload_n rfl rfl ?_
  refine r_iload_n rfl rfl ?_
  refine r_iconst rfl ?_
  refine r_iadd rfl ?_
  refine r_ixld (e := 0) rfl (by decide) hL (by omega) (by omega) ?_
  refine r_aload_n rfl rfl ?_
  refine r_iload_n rfl rfl ?_
  refine r_iconst rfl ?_
  refine r_iadd rfl ?_
  refine r_ixld (e := 0) rfl (by decide) hL (by omega) (by omega) ?_
  refine r_aload_n rfl rfl ?_
  refine r_iload_n rfl rfl ?_
  refine r_iconst rfl ?_
  refine r_iadd rfl ?_
  refine r_ixld (e := 0) rfl (by decide) hL (by omega) (by omega) ?_
  refine r_cV6 rfl (so0 hS) (Nat.le_of_ble_eq_true rfl) rfl rfl (c_worth (d := d + 5) hS hC hk (hin _) (hin _) (hin _) (hin _) (hin _) (fun y1 f1 g1 => ?_))
  have hCI := ci_V hst.1 (frV_r _) f1 g1
  have hMI := mi_V hst.2.1 (frV_r _) f1
  refine r_aload_n rfl rfl ?_
  refine r_aload_n rfl rfl ?_
  refine r_iload_n rfl rfl ?_
  refine r_iconst rfl ?_
  refine r_iadd rfl ?_
  refine r_ixld (e := 0) rfl (by decide) hL (by omega) (by omega) ?_
  refine r_aload_n rfl rfl ?_
  refine r_iload_n rfl rfl ?_
  refine r_iconst rfl ?_
  refine r_iadd rfl ?_
  refine r_ixld (e := 0) rfl (by decide) hL (by omega) (by omega) ?_
  refine r_aload_n rfl rfl ?_
  refine r_iload_n rfl rfl ?_
  refine r_iconst rfl ?_
  refine r_iadd rfl ?_
  refine r_ixld (e := 0) rfl (by decide) hL (by omega) (by omega) ?_
  refine r_aload_n rfl rfl ?_
  refine r_iload_n rfl rfl ?_
  refine r_iconst rfl ?_
  refine r_iadd rfl ?_
  refine r_ixld (e := 0) rfl (by decide) hL (by omega) (by omega) ?_
  refine r_aload_n rfl rfl ?_
  refine r_iload_n rfl rfl ?_
  refine r_iconst rfl ?_
  refine r_iadd rfl ?_
  refine r_ixld (e := 0) rfl (by decide) hL (by omega) (by omega) ?_
  refine r_cV6 rfl (so184 hS) (Nat.le_of_ble_eq_true rfl) rfl rfl (y_worth (d := d + 5) hS hMI.1 hk (hin _) (hin _) (hin _) (hin _) (hin _) (fun y2 e1 => ?_))
  refine r_l_same rfl rfl ?_
  exact nx zI y2 _ rn r t s (rLL hCI hMI hG e1)
set_option maxRecDepth 100000 in
set_option maxHeartbeats 1000000 in
theorem lw_11 {X : PX} {d : Nat} {S : SS} {zI zL : ZM} {Q : PQ} {mc ms : Nat} {i rn : Int} {a : FA} {r : Int → Int} {t : List Int} {s : SA} (hX : xsOK X) (hS : Sk S) (hm : MATHS) (hL : (X 0).1 ≤ 100000) (hi0 : 0 ≤ i) (hi1 : i + 6 ≤ ((X 0).1 : Int)) (hin : ∀ k, inI ((X 0).2 k)) (hst : IV S zI zL a rn r t s) (nx : ∀ z y a rn r t s, IV S z y a rn r t s → Run X (d + 9) c_Law_law 1086 [some (pR xbase), some (pR 0), some (pR 184), some (pI i)] [] S z y mc ms Q) : Run X (d + 9) c_Law_law 380 [some (pR xbase), some (pR 0), some (pR 184), some (pI i)] [] S zI zL mc ms Q := by
  have hC := hst.1.1
  have hR := hst.1.2.1
  have hT := hst.1.2.2.1
  have hSh := hst.1.2.2.2
  have hG := hst.2.2
  have hk := hG.1
  have hrn := hG.2.1
  have hok := hG.2.2.2.2
  obtain ⟨hCP, hID, hRG, hAM, hDR, hME, h8⟩ := hm a hk
  refine r_aload_n rfl rfl ?_
  refine r_aload_n rfl rfl ?_
  refine r_iload_n rfl rfl ?_
  refine r_iconst rfl ?_
  refine r_iadd rfl ?_
  refine r_ixld (e := 0) rfl (by decide) hL (by omega) (by omega) ?_
  refine r_aload_n rfl rfl ?_
  refine r_iload_n rfl rfl ?_
  refine r_iconst rfl ?_
  refine r_iadd rfl ?_
  refine r_ixld (e := 0) rfl (by decide) hL (by omega) (by omega) ?_
  refine r_aload_n rfl rfl ?_
  refine r_iload_n rfl rfl ?_
  refine r_iconst rfl ?_
  refine r_iadd rfl ?_
  refine r_ixld (e := 0) rfl (by decide) hL (by omega) (by omega) ?_
  refine r_aload_n rfl rfl ?_
  refine r_iload_n rfl rfl ?_
  refine r_iconst rfl ?_
  refine r_iadd rfl ?_
  refine r_ixld (e := 0) rfl (by decide) hL (by omega) (by omega) ?_
  refine r_cV5 rfl (so0 hS) (Nat.le_of_ble_eq_true rfl) rfl rfl (c_leastAt (d := d + 4) hS hC hk (hin _) (hin _) (hin _) (hin _) (fun y1 f1 g1 => ?_))
  have hCI := ci_V hst.1 (frV_r _) f1 g1
  have hMI := mi_V hst.2.1 (frV_r _) f1
  refine r_aload_n rfl rfl ?_
  refine r_aload_n rfl rfl ?_
  refine r_iload_n rfl rfl ?_
  refine r_iconst rfl ?_
  refine r_iadd rfl ?_
  refine r_ixld (e := 0) rfl (by decide) hL (by omega) (by omega) ?_
  refine r_aload_n rfl rfl ?_
  refine r_iload_n rfl rfl ?_
  refine r_iconst rfl ?_
  refine r_iadd rfl ?_
  refine r_ixld (e := 0) rfl (by decide) hL (by omega) (by omega) ?_
  refine r_aload_n rfl rfl ?_
  refine r_iload_n rfl rfl ?_
  refine r_iconst rfl ?_
  refine r_iadd rfl ?_
  refine r_ixld (e := 0) rfl (by decide) hL (by omega) (by omega) ?_
  refine r_aload_n rfl rfl ?_
  refine r_iload_n rfl rfl ?_
  refine r_iconst rfl ?_
  refine r_iadd rfl ?_
  refine r_ixld (e := 0) rfl (by decide) hL (by omega) (by omega) ?_
  refine r_cV5 rfl (so184 hS) (Nat.le_of_ble_eq_true rfl) rfl rfl (y_leastAt (d := d + 5) hS hMI.1 hk (hin _) (hin _) (hin _) (hin _) (fun y2 e1 => ?_))
  refine r_icmp_same rfl ?_
  exact nx zI y2 _ rn r t s (rLL hCI hMI hG e1)
set_option maxRecDepth 100000 in
set_option maxHeartbeats 1000000 in
theorem lw_12 {X : PX} {d : Nat} {S : SS} {zI zL : ZM} {Q : PQ} {mc ms : Nat} {i rn : Int} {a : FA} {r : Int → Int} {t : List Int} {s : SA} (hX : xsOK X) (hS : Sk S) (hm : MATHS) (hL : (X 0).1 ≤ 100000) (hi0 : 0 ≤ i) (hi1 : i + 6 ≤ ((X 0).1 : Int)) (hin : ∀ k, inI ((X 0).2 k)) (hst : IV S zI zL a rn r t s) (nx : ∀ z y a rn r t s, IV S z y a rn r t s → Run X (d + 9) c_Law_law 1086 [some (pR xbase), some (pR 0), some (pR 184), some (pI i)] [] S z y mc ms Q) : Run X (d + 9) c_Law_law 427 [some (pR xbase), some (pR 0), some (pR 184), some (pI i)] [] S zI zL mc ms Q := by
  have hC := hst.1.1
  have hR := hst.1.2.1
  have hT := hst.1.2.2.1
  have hSh := hst.1.2.2.2
  have hG := hst.2.2
  have hk := hG.1
  have hrn := hG.2.1
  have hok := hG.2.2.2.2
  obtain ⟨hCP, hID, hRG, hAM, hDR, hME, h8⟩ := hm a hk
  refine r_aload_n rfl rfl ?_
  refine r_aload_n rfl rfl ?_
  refine r_iload_n rfl rfl ?_
  refine r_iconst rfl ?_
  refine r_iadd rfl ?_
  refine r_ixld (e := 0) rfl (by decide) hL (by omega) (by omega) ?_
  refine r_aload_n rfl rfl ?_
  refine r_iload_n rfl rfl ?_
  refine r_iconst rfl ?_
  refine r_iadd rfl ?_
  refine r_ixld (e := 0) rfl (by decide) hL (by omega) (by omega) ?_
  refine r_aload_n rfl rfl ?_
  refine r_iload_n rfl rfl ?_
  refine r_iconst rfl ?_
  refine r_iadd rfl ?_
  refine r_ixld (e := 0) rfl (by decide) hL (by omega) (by omega) ?_
  refine r_cV4 rfl (so0 hS) (Nat.le_of_ble_eq_true rfl) rfl rfl (c_idle (d := d + 2) hS hC hk (hin _) (hin _) (hin _) hDR (fun z1 y1 f1 f2 g1 => ?_))
  have hCI := ci_V hst.1 f1 f2 g1
  have hMI := mi_V hst.2.1 f1 f2
  refine r_aload_n rfl rfl ?_
  refine r_aload_n rfl rfl ?_
  refine r_iload_n rfl rfl ?_
  refine r_iconst rfl ?_
  refine r_iadd rfl ?_
  refine r_ixld (e := 0) rfl (by decide) hL (by omega) (by omega) ?_
  refine r_aload_n rfl rfl ?_
  refine r_iload_n rfl rfl ?_
  refine r_iconst rfl ?_
  refine r_iadd rfl ?_
  refine r_ixld (e := 0) rfl (by decide) hL (by omega) (by omega) ?_
  refine r_aload_n rfl rfl ?_
  refine r_iload_n rfl rfl ?_
  refine r_iconst rfl ?_
  refine r_iadd rfl ?_
  refine r_ixld (e := 0) rfl (by decide) hL (by omega) (by omega) ?_
  refine r_cV4 rfl (so184 hS) (Nat.le_of_ble_eq_true rfl) rfl rfl (y_idle (d := d + 5) hS hMI.1 hk hID (hin _) (hin _) (hin _) ?_)
  refine r_icmp_same rfl ?_
  exact nx z1 y1 _ rn r t s (r0 hCI hMI hG)
set_option maxRecDepth 100000 in
set_option maxHeartbeats 1000000 in
theorem lw_13 {X : PX} {d : Nat} {S : SS} {zI zL : ZM} {Q : PQ} {mc ms : Nat} {i rn : Int} {a : FA} {r : Int → Int} {t : List Int} {s : SA} (hX : xsOK X) (hS : Sk S) (hm : MATHS) (hL : (X 0).1 ≤ 100000) (hi0 : 0 ≤ i) (hi1 : i + 6 ≤ ((X 0).1 : Int)) (hin : ∀ k, inI ((X 0).2 k)) (hst : IV S zI zL a rn r t s) (nx : ∀ z y a rn r t s, IV S z y a rn r t s → Run X (d + 9) c_Law_law 1086 [some (pR xbase), some (pR 0), some (pR 184), some (pI i)] [] S z y mc ms Q) : Run X (d + 9) c_Law_law 464 [some (pR xbase), some (pR 0), some (pR 184), some (pI i)] [] S zI zL mc ms Q := by
  have hC := hst.1.1
  have hR := hst.1.2.1
  have hT := hst.1.2.2.1
  have hSh := hst.1.2.2.2
  have hG := hst.2.2
  have hk := hG.1
  have hrn := hG.2.1
  have hok := hG.2.2.2.2
  obtain ⟨hCP, hID, hRG, hAM, hDR, hME, h8⟩ := hm a hk
  refine r_aload_n rfl rfl ?_
  refine r_aload_n rfl rfl ?_
  refine r_iload_n rfl rfl ?_
  refine r_iconst rfl ?_
  refine r_iadd rfl ?_
  refine r_ixld (e := 0) rfl (by decide) hL (by omega) (by omega) ?_
  refine r_aload_n rfl rfl ?_
  refine r_iload_n rfl rfl ?_
  refine r_iconst rfl ?_
  refine r_iadd rfl ?_
  refine r_ixld (e := 0) rfl (by decide) hL (by omega) (by omega) ?_
  refine r_cV3 rfl (so0 hS) (Nat.le_of_ble_eq_true rfl) rfl rfl (c_same (d := d + 2) hS hC hk (hin _) (hin _) hDR (fun z1 y1 f1 f2 g1 => ?_))
  have hCI := ci_V hst.1 f1 f2 g1
  have hMI := mi_V hst.2.1 f1 f2
  refine r_aload_n rfl rfl ?_
  refine r_aload_n rfl rfl ?_
  refine r_iload_n rfl rfl ?_
  refine r_iconst rfl ?_
  refine r_iadd rfl ?_
  refine r_ixld (e := 0) rfl (by decide) hL (by omega) (by omega) ?_
  refine r_aload_n rfl rfl ?_
  refine r_iload_n rfl rfl ?_
  refine r_iconst rfl ?_
  refine r_iadd rfl ?_
  refine r_ixld (e := 0) rfl (by decide) hL (by omega) (by omega) ?_
  refine r_cV3 rfl (so184 hS) (Nat.le_of_ble_eq_true rfl) rfl rfl (y_same (d := d + 4) hS hMI.1 hk hID (hin _) (hin _) ?_)
  refine r_icmp_same rfl ?_
  exact nx z1 y1 _ rn r t s (r0 hCI hMI hG)
set_option maxRecDepth 100000 in
set_option maxHeartbeats 1000000 in
theorem lw_14 {X : PX} {d : Nat} {S : SS} {zI zL : ZM} {Q : PQ} {mc ms : Nat} {i rn : Int} {a : FA} {r : Int → Int} {t : List Int} {s : SA} (hX : xsOK X) (hS : Sk S) (hm : MATHS) (hL : (X 0).1 ≤ 100000) (hi0 : 0 ≤ i) (hi1 : i + 6 ≤ ((X 0).1 : Int)) (hin : ∀ k, inI ((X 0).2 k)) (hst : IV S zI zL a rn r t s) (nx : ∀ z y a rn r t s, IV S z y a rn r t s → Run X (d + 9) c_Law_law 1086 [some (pR xbase), some (pR 0), some (pR 184), some (pI i)] [] S z y mc ms Q) : Run X (d + 9) c_Law_law 491 [some (pR xbase), some (pR 0), some (pR 184), some (pI i)] [] S zI zL mc ms Q := by
  have hC := hst.1.1
  have hR := hst.1.2.1
  have hT := hst.1.2.2.1
  have hSh := hst.1.2.2.2
  have hG := hst.2.2
  have hk := hG.1
  have hrn := hG.2.1
  have hok := hG.2.2.2.2
  obtain ⟨hCP, hID, hRG, hAM, hDR, hME, h8⟩ := hm a hk
  refine r_aload_n rfl rfl ?_
  refine r_aload_n rfl rfl ?_
  refine r_iload_n rfl rfl ?_
  refine r_iconst rfl ?_
  refine r_iadd rfl ?_
  refine r_ixld (e := 0) rfl (by decide) hL (by omega) (by omega) ?_
  refine r_aload_n rfl rfl ?_
  refine r_iload_n rfl rfl ?_
  refine r_iconst rfl ?_
  refine r_iadd rfl ?_
  refine r_ixld (e := 0) rfl (by decide) hL (by omega) (by omega) ?_
  refine r_aload_n rfl rfl ?_
  refine r_iload_n rfl rfl ?_
  refine r_iconst rfl ?_
  refine r_iadd rfl ?_
  refine r_ixld (e := 0) rfl (by decide) hL (by omega) (by omega) ?_
  refine r_cV4 rfl (so0 hS) (Nat.le_of_ble_eq_true rfl) rfl rfl (c_edge (d := d + 2) hS hC hk (hin _) (hin _) (hin _) hDR (fun z1 y1 f1 f2 g1 => ?_))
  have hCI := ci_V hst.1 f1 f2 g1
  have hMI := mi_V hst.2.1 f1 f2
  refine r_aload_n rfl rfl ?_
  refine r_aload_n rfl rfl ?_
  refine r_iload_n rfl rfl ?_
  refine r_iconst rfl ?_
  refine r_iadd rfl ?_
  refine r_ixld (e := 0) rfl (by decide) hL (by omega) (by omega) ?_
  refine r_aload_n rfl rfl ?_
  refine r_iload_n rfl rfl ?_
  refine r_iconst rfl ?_
  refine r_iadd rfl ?_
  refine r_ixld (e := 0) rfl (by decide) hL (by omega) (by omega) ?_
  refine r_aload_n rfl rfl ?_
  refine r_iload_n rfl rfl ?_
  refine r_iconst rfl ?_
  refine r_iadd rfl ?_
  refine r_ixld (e := 0) rfl (by decide) hL (by omega) (by omega) ?_
  refine r_cV4 rfl (so184 hS) (Nat.le_of_ble_eq_true rfl) rfl rfl (y_edge (d := d + 4) hS hMI.1 hk hCP (hin _) (hin _) (hin _) (fun z2 y2 e1 e2 => ?_))
  refine r_icmp_same rfl ?_
  exact nx z2 y2 _ rn r t s (rE hCI hMI hG e1 e2)
set_option maxRecDepth 100000 in
set_option maxHeartbeats 1000000 in
theorem lw_15 {X : PX} {d : Nat} {S : SS} {zI zL : ZM} {Q : PQ} {mc ms : Nat} {i rn : Int} {a : FA} {r : Int → Int} {t : List Int} {s : SA} (hX : xsOK X) (hS : Sk S) (hm : MATHS) (hL : (X 0).1 ≤ 100000) (hi0 : 0 ≤ i) (hi1 : i + 6 ≤ ((X 0).1 : Int)) (hin : ∀ k, inI ((X 0).2 k)) (hst : IV S zI zL a rn r t s) (nx : ∀ z y a rn r t s, IV S z y a rn r t s → Run X (d + 9) c_Law_law 1086 [some (pR xbase), some (pR 0), some (pR 184), some (pI i)] [] S z y mc ms Q) : Run X (d + 9) c_Law_law 528 [some (pR xbase), some (pR 0), some (pR 184), some (pI i)] [] S zI zL mc ms Q := by
  have hC := hst.1.1
  have hR := hst.1.2.1
  have hT := hst.1.2.2.1
  have hSh := hst.1.2.2.2
  have hG := hst.2.2
  have hk := hG.1
  have hrn := hG.2.1
  have hok := hG.2.2.2.2
  obtain ⟨hCP, hID, hRG, hAM, hDR, hME, h8⟩ := hm a hk
  refine r_aload_n rfl rfl ?_
  refine r_aload_n rfl rfl ?_
  refine r_iload_n rfl rfl ?_
  refine r_iconst rfl ?_
  refine r_iadd rfl ?_
  refine r_ixld (e := 0) rfl (by decide) hL (by omega) (by omega) ?_
  refine r_aload_n rfl rfl ?_
  refine r_iload_n rfl rfl ?_
  refine r_iconst rfl ?_
  refine r_iadd rfl ?_
  refine r_ixld (e := 0) rfl (by decide) hL (by omega) (by omega) ?_
  refine r_aload_n rfl rfl ?_
  refine r_iload_n rfl rfl ?_
  refine r_iconst rfl ?_
  refine r_iadd rfl ?_
  refine r_ixld (e := 0) rfl (by decide) hL (by omega) (by omega) ?_
  refine r_aload_n rfl rfl ?_
  refine r_iload_n rfl rfl ?_
  refine r_iconst rfl ?_
  refine r_iadd rfl ?_
  refine r_ixld (e := 0) rfl (by decide) hL (by omega) (by omega) ?_
  refine r_cV5 rfl (so0 hS) (Nat.le_of_ble_eq_true rfl) rfl rfl (c_end (d := d + 2) hS hC hk (hin _) (hin _) (hin _) (hin _) hDR (fun z1 y1 f1 f2 g1 => ?_))
  have hCI := ci_V hst.1 f1 f2 g1
  have hMI := mi_V hst.2.1 f1 f2
  refine r_aload_n rfl rfl ?_
  refine r_aload_n rfl rfl ?_
  refine r_iload_n rfl rfl ?_
  refine r_iconst rfl ?_
  refine r_iadd rfl ?_
  refine r_ixld (e := 0) rfl (by decide) hL (by omega) (by omega) ?_
  refine r_aload_n rfl rfl ?_
  refine r_iload_n rfl rfl ?_
  refine r_iconst rfl ?_
  refine r_iadd rfl ?_
  refine r_ixld (e := 0) rfl (by decide) hL (by omega) (by omega) ?_
  refine r_aload_n rfl rfl ?_
  refine r_iload_n rfl rfl ?_
  refine r_iconst rfl ?_
  refine r_iadd rfl ?_
  refine r_ixld (e := 0) rfl (by decide) hL (by omega) (by omega) ?_
  refine r_aload_n rfl rfl ?_
  refine r_iload_n rfl rfl ?_
  refine r_iconst rfl ?_
  refine r_iadd rfl ?_
  refine r_ixld (e := 0) rfl (by decide) hL (by omega) (by omega) ?_
  refine r_cV5 rfl (so184 hS) (Nat.le_of_ble_eq_true rfl) rfl rfl (y_end (d := d + 4) hS hMI.1 hk hCP (hin _) (hin _) (hin _) (hin _) (fun z2 y2 e1 e2 => ?_))
  refine r_l_same rfl rfl ?_
  exact nx z2 y2 _ rn r t s (rE hCI hMI hG e1 e2)
set_option maxRecDepth 100000 in
set_option maxHeartbeats 1000000 in
theorem lw_16 {X : PX} {d : Nat} {S : SS} {zI zL : ZM} {Q : PQ} {mc ms : Nat} {i rn : Int} {a : FA} {r : Int → Int} {t : List Int} {s : SA} (hX : xsOK X) (hS : Sk S) (hm : MATHS) (hL : (X 0).1 ≤ 100000) (hi0 : 0 ≤ i) (hi1 : i + 6 ≤ ((X 0).1 : Int)) (hin : ∀ k, inI ((X 0).2 k)) (hst : IV S zI zL a rn r t s) (nx : ∀ z y a rn r t s, IV S z y a rn r t s → Run X (d + 9) c_Law_law 1086 [some (pR xbase), some (pR 0), some (pR 184), some (pI i)] [] S z y mc ms Q) : Run X (d + 9) c_Law_law 576 [some (pR xbase), some (pR 0), some (pR 184), some (pI i)] [] S zI zL mc ms Q := by
  have hC := hst.1.1
  have hR := hst.1.2.1
  have hT := hst.1.2.2.1
  have hSh := hst.1.2.2.2
  have hG := hst.2.2
  have hk := hG.1
  have hrn := hG.2.1
  have hok := hG.2.2.2.2
  obtain ⟨hCP, hID, hRG, hAM, hDR, hME, h8⟩ := hm a hk
  refine r_aload_n rfl rfl ?_
  refine r_aload_n rfl rfl ?_
  refine r_iload_n rfl rfl ?_
  refine r_iconst rfl ?_
  refine r_iadd rfl ?_
  refine r_ixld (e := 0) rfl (by decide) hL (by omega) (by omega) ?_
  refine r_aload_n rfl rfl ?_
  refine r_iload_n rfl rfl ?_
  refine r_iconst rfl ?_
  refine r_iadd rfl ?_
  refine r_ixld (e := 0) rfl (by decide) hL (by omega) (by omega) ?_
  refine r_aload_n rfl rfl ?_
  refine r_iload_n rfl rfl ?_
  refine r_iconst rfl ?_
  refine r_iadd rfl ?_
  refine r_ixld (e := 0) rfl (by decide) hL (by omega) (by omega) ?_
  refine r_cV4 rfl (so0 hS) (Nat.le_of_ble_eq_true rfl) rfl rfl (c_corner (d := d + 2) hS hC hk (hin _) (hin _) (hin _) hDR (fun z1 y1 f1 f2 g1 => ?_))
  have hCI := ci_V hst.1 f1 f2 g1
  have hMI := mi_V hst.2.1 f1 f2
  refine r_aload_n rfl rfl ?_
  refine r_aload_n rfl rfl ?_
  refine r_iload_n rfl rfl ?_
  refine r_iconst rfl ?_
  refine r_iadd rfl ?_
  refine r_ixld (e := 0) rfl (by decide) hL (by omega) (by omega) ?_
  refine r_aload_n rfl rfl ?_
  refine r_iload_n rfl rfl ?_
  refine r_iconst rfl ?_
  refine r_iadd rfl ?_
  refine r_ixld (e := 0) rfl (by decide) hL (by omega) (by omega) ?_
  refine r_aload_n rfl rfl ?_
  refine r_iload_n rfl rfl ?_
  refine r_iconst rfl ?_
  refine r_iadd rfl ?_
  refine r_ixld (e := 0) rfl (by decide) hL (by omega) (by omega) ?_
  refine r_cV4 rfl (so184 hS) (Nat.le_of_ble_eq_true rfl) rfl rfl (y_corner (d := d + 3) hS hMI.1 hk hCP hRG (hin _) (hin _) (hin _) (fun z2 y2 e1 e2 => ?_))
  refine r_l_same rfl rfl ?_
  exact nx z2 y2 _ rn r t s (rY hCI hMI hG e1 e2)
set_option maxRecDepth 100000 in
set_option maxHeartbeats 1000000 in
theorem lw_17 {X : PX} {d : Nat} {S : SS} {zI zL : ZM} {Q : PQ} {mc ms : Nat} {i rn : Int} {a : FA} {r : Int → Int} {t : List Int} {s : SA} (hX : xsOK X) (hS : Sk S) (hm : MATHS) (hL : (X 0).1 ≤ 100000) (hi0 : 0 ≤ i) (hi1 : i + 6 ≤ ((X 0).1 : Int)) (hin : ∀ k, inI ((X 0).2 k)) (hst : IV S zI zL a rn r t s) (nx : ∀ z y a rn r t s, IV S z y a rn r t s → Run X (d + 9) c_Law_law 1086 [some (pR xbase), some (pR 0), some (pR 184), some (pI i)] [] S z y mc ms Q) : Run X (d + 9) c_Law_law 614 [some (pR xbase), some (pR 0), some (pR 184), some (pI i)] [] S zI zL mc ms Q := by
  have hC := hst.1.1
  have hR := hst.1.2.1
  have hT := hst.1.2.2.1
  have hSh := hst.1.2.2.2
  have hG := hst.2.2
  have hk := hG.1
  have hrn := hG.2.1
  have hok := hG.2.2.2.2
  obtain ⟨hCP, hID, hRG, hAM, hDR, hME, h8⟩ := hm a hk
  refine r_aload_n rfl rfl ?_
  refine r_aload_n rfl rfl ?_
  refine r_iload_n rfl rfl ?_
  refine r_iconst rfl ?_
  refine r_iadd rfl ?_
  refine r_ixld (e := 0) rfl (by decide) hL (by omega) (by omega) ?_
  refine r_aload_n rfl rfl ?_
  refine r_iload_n rfl rfl ?_
  refine r_iconst rfl ?_
  refine r_iadd rfl ?_
  refine r_ixld (e := 0) rfl (by decide) hL (by omega) (by omega) ?_
  refine r_cV3 rfl (so0 hS) (Nat.le_of_ble_eq_true rfl) rfl rfl (c_amount (d := d + 4) hS hC hk (hin _) (hin _) (fun z1 f1 g1 => ?_))
  have hCI := ci_V hst.1 f1 (frV_r _) g1
  have hMI := mi_V hst.2.1 f1 (frV_r _)
  refine r_aload_n rfl rfl ?_
  refine r_aload_n rfl rfl ?_
  refine r_iload_n rfl rfl ?_
  refine r_iconst rfl ?_
  refine r_iadd rfl ?_
  refine r_ixld (e := 0) rfl (by decide) hL (by omega) (by omega) ?_
  refine r_aload_n rfl rfl ?_
  refine r_iload_n rfl rfl ?_
  refine r_iconst rfl ?_
  refine r_iadd rfl ?_
  refine r_ixld (e := 0) rfl (by decide) hL (by omega) (by omega) ?_
  refine r_cV3 rfl (so184 hS) (Nat.le_of_ble_eq_true rfl) rfl rfl (y_amount (d := d + 5) hS hMI.1 hk hRG hAM (hin _) (hin _) (fun z2 e1 => ?_))
  refine r_icmp_same rfl ?_
  exact nx z2 zL _ rn r t s (rR hCI hMI hG e1)
set_option maxRecDepth 100000 in
set_option maxHeartbeats 1000000 in
theorem lw_18 {X : PX} {d : Nat} {S : SS} {zI zL : ZM} {Q : PQ} {mc ms : Nat} {i rn : Int} {a : FA} {r : Int → Int} {t : List Int} {s : SA} (hX : xsOK X) (hS : Sk S) (hm : MATHS) (hL : (X 0).1 ≤ 100000) (hi0 : 0 ≤ i) (hi1 : i + 6 ≤ ((X 0).1 : Int)) (hin : ∀ k, inI ((X 0).2 k)) (hst : IV S zI zL a rn r t s) (nx : ∀ z y a rn r t s, IV S z y a rn r t s → Run X (d + 9) c_Law_law 1086 [some (pR xbase), some (pR 0), some (pR 184), some (pI i)] [] S z y mc ms Q) : Run X (d + 9) c_Law_law 641 [some (pR xbase), some (pR 0), some (pR 184), some (pI i)] [] S zI zL mc ms Q := by
  have hC := hst.1.1
  have hR := hst.1.2.1
  have hT := hst.1.2.2.1
  have hSh := hst.1.2.2.2
  have hG := hst.2.2
  have hk := hG.1
  have hrn := hG.2.1
  have hok := hG.2.2.2.2
  obtain ⟨hCP, hID, hRG, hAM, hDR, hME, h8⟩ := hm a hk
  refine r_aload_n rfl rfl ?_
  refine r_aload_n rfl rfl ?_
  refine r_iload_n rfl rfl ?_
  refine r_iconst rfl ?_
  refine r_iadd rfl ?_
  refine r_ixld (e := 0) rfl (by decide) hL (by omega) (by omega) ?_
  refine r_aload_n rfl rfl ?_
  refine r_iload_n rfl rfl ?_
  refine r_iconst rfl ?_
  refine r_iadd rfl ?_
  refine r_ixld (e := 0) rfl (by decide) hL (by omega) (by omega) ?_
  refine r_cV3 rfl (so0 hS) (Nat.le_of_ble_eq_true rfl) rfl rfl (c_meets (d := d + 2) hS hC hk (hin _) (hin _) hME (fun z1 y1 f1 f2 g1 => ?_))
  have hCI := ci_V hst.1 f1 f2 g1
  have hMI := mi_V hst.2.1 f1 f2
  refine r_aload_n rfl rfl ?_
  refine r_aload_n rfl rfl ?_
  refine r_iload_n rfl rfl ?_
  refine r_iconst rfl ?_
  refine r_iadd rfl ?_
  refine r_ixld (e := 0) rfl (by decide) hL (by omega) (by omega) ?_
  refine r_aload_n rfl rfl ?_
  refine r_iload_n rfl rfl ?_
  refine r_iconst rfl ?_
  refine r_iadd rfl ?_
  refine r_ixld (e := 0) rfl (by decide) hL (by omega) (by omega) ?_
  refine r_cV3 rfl (so184 hS) (Nat.le_of_ble_eq_true rfl) rfl rfl (y_meets2 (d := d + 1) hS hMI.1 hk hCP h8 (hin _) (hin _) (fun z2 y2 e1 e2 => ?_))
  refine r_icmp_same rfl ?_
  exact nx z2 y2 _ rn r t s (rW hCI hMI hG e1 e2)
set_option maxRecDepth 100000 in
set_option maxHeartbeats 1000000 in
theorem lw_19 {X : PX} {d : Nat} {S : SS} {zI zL : ZM} {Q : PQ} {mc ms : Nat} {i rn : Int} {a : FA} {r : Int → Int} {t : List Int} {s : SA} (hX : xsOK X) (hS : Sk S) (hm : MATHS) (hL : (X 0).1 ≤ 100000) (hi0 : 0 ≤ i) (hi1 : i + 6 ≤ ((X 0).1 : Int)) (hin : ∀ k, inI ((X 0).2 k)) (hst : IV S zI zL a rn r t s) (nx : ∀ z y a rn r t s, IV S z y a rn r t s → Run X (d + 9) c_Law_law 1086 [some (pR xbase), some (pR 0), some (pR 184), some (pI i)] [] S z y mc ms Q) : Run X (d + 9) c_Law_law 668 [some (pR xbase), some (pR 0), some (pR 184), some (pI i)] [] S zI zL mc ms Q := by
  have hC := hst.1.1
  have hR := hst.1.2.1
  have hT := hst.1.2.2.1
  have hSh := hst.1.2.2.2
  have hG := hst.2.2
  have hk := hG.1
  have hrn := hG.2.1
  have hok := hG.2.2.2.2
  obtain ⟨hCP, hID, hRG, hAM, hDR, hME, h8⟩ := hm a hk
  refine r_aload_n rfl rfl ?_
  refine r_aload_n rfl rfl ?_
  refine r_iload_n rfl rfl ?_
  refine r_iconst rfl ?_
  refine r_iadd rfl ?_
  refine r_ixld (e := 0) rfl (by decide) hL (by omega) (by omega) ?_
  refine r_aload_n rfl rfl ?_
  refine r_iload_n rfl rfl ?_
  refine r_iconst rfl ?_
  refine r_iadd rfl ?_
  refine r_ixld (e := 0) rfl (by decide) hL (by omega) (by omega) ?_
  refine r_aload_n rfl rfl ?_
  refine r_iload_n rfl rfl ?_
  refine r_iconst rfl ?_
  refine r_iadd rfl ?_
  refine r_ixld (e := 0) rfl (by decide) hL (by omega) (by omega) ?_
  refine r_aload_n rfl rfl ?_
  refine r_iload_n rfl rfl ?_
  refine r_iconst rfl ?_
  refine r_iadd rfl ?_
  refine r_ixld (e := 0) rfl (by decide) hL (by omega) (by omega) ?_
  refine r_cV5 rfl (so0 hS) (Nat.le_of_ble_eq_true rfl) rfl rfl (c_meet (d := d + 2) hS hC hk (hin _) (hin _) (hin _) (hin _) hME (fun z1 y1 f1 f2 g1 => ?_))
  have hCI := ci_V hst.1 f1 f2 g1
  have hMI := mi_V hst.2.1 f1 f2
  refine r_aload_n rfl rfl ?_
  refine r_aload_n rfl rfl ?_
  refine r_iload_n rfl rfl ?_
  refine r_iconst rfl ?_
  refine r_iadd rfl ?_
  refine r_ixld (e := 0) rfl (by decide) hL (by omega) (by omega) ?_
  refine r_aload_n rfl rfl ?_
  refine r_iload_n rfl rfl ?_
  refine r_iconst rfl ?_
  refine r_iadd rfl ?_
  refine r_ixld (e := 0) rfl (by decide) hL (by omega) (by omega) ?_
  refine r_aload_n rfl rfl ?_
  refine r_iload_n rfl rfl ?_
  refine r_iconst rfl ?_
  refine r_iadd rfl ?_
  refine r_ixld (e := 0) rfl (by decide) hL (by omega) (by omega) ?_
  refine r_aload_n rfl rfl ?_
  refine r_iload_n rfl rfl ?_
  refine r_iconst rfl ?_
  refine r_iadd rfl ?_
  refine r_ixld (e := 0) rfl (by decide) hL (by omega) (by omega) ?_
  refine r_cV5 rfl (so184 hS) (Nat.le_of_ble_eq_true rfl) rfl rfl (y_meet3 (d := d + 1) hS hMI.1 hk hCP h8 hME (hin _) (hin _) (hin _) (hin _) (fun z2 y2 e1 e2 => ?_))
  refine r_l_same rfl rfl ?_
  exact nx z2 y2 _ rn r t s (rW hCI hMI hG e1 e2)
set_option maxRecDepth 100000 in
set_option maxHeartbeats 1000000 in
theorem lw_20 {X : PX} {d : Nat} {S : SS} {zI zL : ZM} {Q : PQ} {mc ms : Nat} {i rn : Int} {a : FA} {r : Int → Int} {t : List Int} {s : SA} (hX : xsOK X) (hS : Sk S) (hm : MATHS) (hL : (X 0).1 ≤ 100000) (hi0 : 0 ≤ i) (hi1 : i + 6 ≤ ((X 0).1 : Int)) (hin : ∀ k, inI ((X 0).2 k)) (hst : IV S zI zL a rn r t s) (nx : ∀ z y a rn r t s, IV S z y a rn r t s → Run X (d + 9) c_Law_law 1086 [some (pR xbase), some (pR 0), some (pR 184), some (pI i)] [] S z y mc ms Q) : Run X (d + 9) c_Law_law 716 [some (pR xbase), some (pR 0), some (pR 184), some (pI i)] [] S zI zL mc ms Q := by
  have hC := hst.1.1
  have hR := hst.1.2.1
  have hT := hst.1.2.2.1
  have hSh := hst.1.2.2.2
  have hG := hst.2.2
  have hk := hG.1
  have hrn := hG.2.1
  have hok := hG.2.2.2.2
  obtain ⟨hCP, hID, hRG, hAM, hDR, hME, h8⟩ := hm a hk
  refine r_aload_n rfl rfl ?_
  refine r_aload_n rfl rfl ?_
  refine r_iload_n rfl rfl ?_
  refine r_iconst rfl ?_
  refine r_iadd rfl ?_
  refine r_ixld (e := 0) rfl (by decide) hL (by omega) (by omega) ?_
  refine r_aload_n rfl rfl ?_
  refine r_iload_n rfl rfl ?_
  refine r_iconst rfl ?_
  refine r_iadd rfl ?_
  refine r_ixld (e := 0) rfl (by decide) hL (by omega) (by omega) ?_
  refine r_aload_n rfl rfl ?_
  refine r_iload_n rfl rfl ?_
  refine r_iconst rfl ?_
  refine r_iadd rfl ?_
  refine r_ixld (e := 0) rfl (by decide) hL (by omega) (by omega) ?_
  refine r_cV4 rfl (so0 hS) (Nat.le_of_ble_eq_true rfl) rfl rfl (c_root (d := d + 2) hS hC hk (hin _) (hin _) (hin _) hDR (fun z1 y1 f1 f2 g1 => ?_))
  have hCI := ci_V hst.1 f1 f2 g1
  have hMI := mi_V hst.2.1 f1 f2
  refine r_aload_n rfl rfl ?_
  refine r_aload_n rfl rfl ?_
  refine r_iload_n rfl rfl ?_
  refine r_iconst rfl ?_
  refine r_iadd rfl ?_
  refine r_ixld (e := 0) rfl (by decide) hL (by omega) (by omega) ?_
  refine r_aload_n rfl rfl ?_
  refine r_iload_n rfl rfl ?_
  refine r_iconst rfl ?_
  refine r_iadd rfl ?_
  refine r_ixld (e := 0) rfl (by decide) hL (by omega) (by omega) ?_
  refine r_aload_n rfl rfl ?_
  refine r_iload_n rfl rfl ?_
  refine r_iconst rfl ?_
  refine r_iadd rfl ?_
  refine r_ixld (e := 0) rfl (by decide) hL (by omega) (by omega) ?_
  refine r_cV4 rfl (so184 hS) (Nat.le_of_ble_eq_true rfl) rfl rfl (y_root (d := d + 4) hS hMI.1 hk hCP (hin _) (hin _) (hin _) (fun z2 y2 e1 e2 => ?_))
  refine r_l_same rfl rfl ?_
  exact nx z2 y2 _ rn r t s (rE hCI hMI hG e1 e2)
set_option maxRecDepth 100000 in
set_option maxHeartbeats 1000000 in
theorem lw_21 {X : PX} {d : Nat} {S : SS} {zI zL : ZM} {Q : PQ} {mc ms : Nat} {i rn : Int} {a : FA} {r : Int → Int} {t : List Int} {s : SA} (hX : xsOK X) (hS : Sk S) (hm : MATHS) (hL : (X 0).1 ≤ 100000) (hi0 : 0 ≤ i) (hi1 : i + 6 ≤ ((X 0).1 : Int)) (hin : ∀ k, inI ((X 0).2 k)) (hst : IV S zI zL a rn r t s) (nx : ∀ z y a rn r t s, IV S z y a rn r t s → Run X (d + 9) c_Law_law 1086 [some (pR xbase), some (pR 0), some (pR 184), some (pI i)] [] S z y mc ms Q) : Run X (d + 9) c_Law_law 754 [some (pR xbase), some (pR 0), some (pR 184), some (pI i)] [] S zI zL mc ms Q := by
  have hC := hst.1.1
  have hR := hst.1.2.1
  have hT := hst.1.2.2.1
  have hSh := hst.1.2.2.2
  have hG := hst.2.2
  have hk := hG.1
  have hrn := hG.2.1
  have hok := hG.2.2.2.2
  obtain ⟨hCP, hID, hRG, hAM, hDR, hME, h8⟩ := hm a hk
  refine r_aload_n rfl rfl ?_
  refine r_aload_n rfl rfl ?_
  refine r_iload_n rfl rfl ?_
  refine r_iconst rfl ?_
  refine r_iadd rfl ?_
  refine r_ixld (e := 0) rfl (by decide) hL (by omega) (by omega) ?_
  refine r_cV2 rfl (so0 hS) (Nat.le_of_ble_eq_true rfl) rfl rfl (c_write (d := d + 2) hS hC hk hR (hin _) hDR (fun z1 y1 f1 f2 g1 g2 g3 => ?_))
  have hCI := ci_W hst.1 f1 f2 g1 g2
  have hMI := mi_W hst.2.1 f1 f2
  refine r_aload_n rfl rfl ?_
  refine r_aload_n rfl rfl ?_
  refine r_iload_n rfl rfl ?_
  refine r_iconst rfl ?_
  refine r_iadd rfl ?_
  refine r_ixld (e := 0) rfl (by decide) hL (by omega) (by omega) ?_
  refine r_cV2 rfl (so184 hS) (Nat.le_of_ble_eq_true rfl) rfl rfl (y_write2 (d := d + 2) hS hMI.1 hk hCP hMI.2.1 (hin _) (fun z2 y2 e1 e2 e3 => ?_))
  refine r_icmp_same rfl ?_
  exact nx z2 y2 _ _ _ t s (rZ hCI hMI ⟨hk, by omega, wr_b hk hG.2.2.1, hG.2.2.2⟩ e1 e2 e3)
set_option maxRecDepth 100000 in
set_option maxHeartbeats 1000000 in
theorem lw_22 {X : PX} {d : Nat} {S : SS} {zI zL : ZM} {Q : PQ} {mc ms : Nat} {i rn : Int} {a : FA} {r : Int → Int} {t : List Int} {s : SA} (hX : xsOK X) (hS : Sk S) (hm : MATHS) (hL : (X 0).1 ≤ 100000) (hi0 : 0 ≤ i) (hi1 : i + 6 ≤ ((X 0).1 : Int)) (hin : ∀ k, inI ((X 0).2 k)) (hst : IV S zI zL a rn r t s) (nx : ∀ z y a rn r t s, IV S z y a rn r t s → Run X (d + 9) c_Law_law 1086 [some (pR xbase), some (pR 0), some (pR 184), some (pI i)] [] S z y mc ms Q) : Run X (d + 9) c_Law_law 771 [some (pR xbase), some (pR 0), some (pR 184), some (pI i)] [] S zI zL mc ms Q := by
  have hC := hst.1.1
  have hR := hst.1.2.1
  have hT := hst.1.2.2.1
  have hSh := hst.1.2.2.2
  have hG := hst.2.2
  have hk := hG.1
  have hrn := hG.2.1
  have hok := hG.2.2.2.2
  obtain ⟨hCP, hID, hRG, hAM, hDR, hME, h8⟩ := hm a hk
  refine r_aload_n rfl rfl ?_
  refine r_aload_n rfl rfl ?_
  refine r_iload_n rfl rfl ?_
  refine r_iconst rfl ?_
  refine r_iadd rfl ?_
  refine r_ixld (e := 0) rfl (by decide) hL (by omega) (by omega) ?_
  refine r_cV2 rfl (so0 hS) (Nat.le_of_ble_eq_true rfl) rfl rfl (c_row (d := d + 7) hS hR hrn (hin _) ?_)
  have hCI := hst.1
  have hMI := hst.2.1
  refine r_aload_n rfl rfl ?_
  refine r_aload_n rfl rfl ?_
  refine r_iload_n rfl rfl ?_
  refine r_iconst rfl ?_
  refine r_iadd rfl ?_
  refine r_ixld (e := 0) rfl (by decide) hL (by omega) (by omega) ?_
  refine r_cV2 rfl (so184 hS) (Nat.le_of_ble_eq_true rfl) rfl rfl (y_row (d := d + 7) hS hMI.2.1 ⟨hrn.1, by omega⟩ (hin _) ?_)
  refine r_l_same rfl rfl ?_
  exact nx zI zL _ rn r t s (r0 hCI hMI hG)
set_option maxRecDepth 100000 in
set_option maxHeartbeats 1000000 in
theorem lw_23 {X : PX} {d : Nat} {S : SS} {zI zL : ZM} {Q : PQ} {mc ms : Nat} {i rn : Int} {a : FA} {r : Int → Int} {t : List Int} {s : SA} (hX : xsOK X) (hS : Sk S) (hm : MATHS) (hL : (X 0).1 ≤ 100000) (hi0 : 0 ≤ i) (hi1 : i + 6 ≤ ((X 0).1 : Int)) (hin : ∀ k, inI ((X 0).2 k)) (hst : IV S zI zL a rn r t s) (nx : ∀ z y a rn r t s, IV S z y a rn r t s → Run X (d + 9) c_Law_law 1086 [some (pR xbase), some (pR 0), some (pR 184), some (pI i)] [] S z y mc ms Q) : Run X (d + 9) c_Law_law 789 [some (pR xbase), some (pR 0), some (pR 184), some (pI i)] [] S zI zL mc ms Q := by
  have hC := hst.1.1
  have hR := hst.1.2.1
  have hT := hst.1.2.2.1
  have hSh := hst.1.2.2.2
  have hG := hst.2.2
  have hk := hG.1
  have hrn := hG.2.1
  have hok := hG.2.2.2.2
  obtain ⟨hCP, hID, hRG, hAM, hDR, hME, h8⟩ := hm a hk
  refine r_aload_n rfl rfl ?_
  refine r_aload_n rfl rfl ?_
  refine r_iload_n rfl rfl ?_
  refine r_iconst rfl ?_
  refine r_iadd rfl ?_
  refine r_ixld (e := 0) rfl (by decide) hL (by omega) (by omega) ?_
  refine r_aload_n rfl rfl ?_
  refine r_iload_n rfl rfl ?_
  refine r_iconst rfl ?_
  refine r_iadd rfl ?_
  refine r_ixld (e := 0) rfl (by decide) hL (by omega) (by omega) ?_
  refine r_i2l rfl (hin _) ?_
  refine r_bipush rfl ?_
  refine r_lshl rfl ?_
  refine r_aload_n rfl rfl ?_
  refine r_iload_n rfl rfl ?_
  refine r_iconst rfl ?_
  refine r_iadd rfl ?_
  refine r_ixld (e := 0) rfl (by decide) hL (by omega) (by omega) ?_
  refine r_i2l rfl (hin _) ?_
  refine r_ldc2_w rfl ?_
  refine r_land rfl ?_
  refine r_lor rfl ?_
  refine r_cV3 rfl (so0 hS) (Nat.le_of_ble_eq_true rfl) rfl rfl (c_forge (d := d + 7) hS hR hrn (hin _) (fun y1 f1 g1 => ?_))
  have hCI := ci_F hst.1 hk f1 g1
  have hMI := mi_F hst.2.1 f1
  refine r_aload_n rfl rfl ?_
  refine r_aload_n rfl rfl ?_
  refine r_iload_n rfl rfl ?_
  refine r_iconst rfl ?_
  refine r_iadd rfl ?_
  refine r_ixld (e := 0) rfl (by decide) hL (by omega) (by omega) ?_
  refine r_aload_n rfl rfl ?_
  refine r_iload_n rfl rfl ?_
  refine r_iconst rfl ?_
  refine r_iadd rfl ?_
  refine r_ixld (e := 0) rfl (by decide) hL (by omega) (by omega) ?_
  refine r_i2l rfl (hin _) ?_
  refine r_bipush rfl ?_
  refine r_lshl rfl ?_
  refine r_aload_n rfl rfl ?_
  refine r_iload_n rfl rfl ?_
  refine r_iconst rfl ?_
  refine r_iadd rfl ?_
  refine r_ixld (e := 0) rfl (by decide) hL (by omega) (by omega) ?_
  refine r_i2l rfl (hin _) ?_
  refine r_ldc2_w rfl ?_
  refine r_land rfl ?_
  refine r_lor rfl ?_
  refine r_cV3 rfl (so184 hS) (Nat.le_of_ble_eq_true rfl) rfl rfl (y_forge2 (d := d + 7) hS hMI.2.1 ⟨hrn.1, by omega⟩ (hin _) (fun y2 e1 e2 => ?_))
  refine r_icmp_same rfl ?_
  exact nx zI y2 _ _ _ t s (rF hCI hMI ⟨hk, hrn, fo_b hG.2.2.1 (i64_b _), hG.2.2.2⟩ e1 e2)
set_option maxRecDepth 100000 in
set_option maxHeartbeats 1000000 in
theorem lw_24 {X : PX} {d : Nat} {S : SS} {zI zL : ZM} {Q : PQ} {mc ms : Nat} {i rn : Int} {a : FA} {r : Int → Int} {t : List Int} {s : SA} (hX : xsOK X) (hS : Sk S) (hm : MATHS) (hL : (X 0).1 ≤ 100000) (hi0 : 0 ≤ i) (hi1 : i + 6 ≤ ((X 0).1 : Int)) (hin : ∀ k, inI ((X 0).2 k)) (hst : IV S zI zL a rn r t s) (nx : ∀ z y a rn r t s, IV S z y a rn r t s → Run X (d + 9) c_Law_law 1086 [some (pR xbase), some (pR 0), some (pR 184), some (pI i)] [] S z y mc ms Q) : Run X (d + 9) c_Law_law 840 [some (pR xbase), some (pR 0), some (pR 184), some (pI i)] [] S zI zL mc ms Q := by
  have hC := hst.1.1
  have hR := hst.1.2.1
  have hT := hst.1.2.2.1
  have hSh := hst.1.2.2.2
  have hG := hst.2.2
  have hk := hG.1
  have hrn := hG.2.1
  have hok := hG.2.2.2.2
  obtain ⟨hCP, hID, hRG, hAM, hDR, hME, h8⟩ := hm a hk
  refine r_aload_n rfl rfl ?_
  refine r_aload_n rfl rfl ?_
  refine r_iload_n rfl rfl ?_
  refine r_iconst rfl ?_
  refine r_iadd rfl ?_
  refine r_ixld (e := 0) rfl (by decide) hL (by omega) (by omega) ?_
  refine r_cV2 rfl (so0 hS) (Nat.le_of_ble_eq_true rfl) rfl rfl (c_check (d := d + 2) hS hC hk hR hrn hG.2.2.1 (hin _) hDR (fun z1 y1 f1 f2 g1 => ?_))
  have hCI := ci_V hst.1 f1 f2 g1
  have hMI := mi_V hst.2.1 f1 f2
  refine r_aload_n rfl rfl ?_
  refine r_aload_n rfl rfl ?_
  refine r_iload_n rfl rfl ?_
  refine r_iconst rfl ?_
  refine r_iadd rfl ?_
  refine r_ixld (e := 0) rfl (by decide) hL (by omega) (by omega) ?_
  refine r_cV2 rfl (so184 hS) (Nat.le_of_ble_eq_true rfl) rfl rfl (y_check (d := d + 2) hS hMI.1 hk hCP hMI.2.1 ⟨hrn.1, by omega⟩ hG.2.2.1 (hin _) (fun z2 y2 e1 e2 => ?_))
  refine r_icmp_same rfl ?_
  exact nx z2 y2 _ rn r t s (rK hCI hMI hG e1 e2)
set_option maxRecDepth 100000 in
set_option maxHeartbeats 1000000 in
theorem lw_25 {X : PX} {d : Nat} {S : SS} {zI zL : ZM} {Q : PQ} {mc ms : Nat} {i rn : Int} {a : FA} {r : Int → Int} {t : List Int} {s : SA} (hX : xsOK X) (hS : Sk S) (hm : MATHS) (hL : (X 0).1 ≤ 100000) (hi0 : 0 ≤ i) (hi1 : i + 6 ≤ ((X 0).1 : Int)) (hin : ∀ k, inI ((X 0).2 k)) (hst : IV S zI zL a rn r t s) (nx : ∀ z y a rn r t s, IV S z y a rn r t s → Run X (d + 9) c_Law_law 1086 [some (pR xbase), some (pR 0), some (pR 184), some (pI i)] [] S z y mc ms Q) : Run X (d + 9) c_Law_law 857 [some (pR xbase), some (pR 0), some (pR 184), some (pI i)] [] S zI zL mc ms Q := by
  have hC := hst.1.1
  have hR := hst.1.2.1
  have hT := hst.1.2.2.1
  have hSh := hst.1.2.2.2
  have hG := hst.2.2
  have hk := hG.1
  have hrn := hG.2.1
  have hok := hG.2.2.2.2
  obtain ⟨hCP, hID, hRG, hAM, hDR, hME, h8⟩ := hm a hk
  refine r_aload_n rfl rfl ?_
  refine r_aload_n rfl rfl ?_
  refine r_iload_n rfl rfl ?_
  refine r_iconst rfl ?_
  refine r_iadd rfl ?_
  refine r_ixld (e := 0) rfl (by decide) hL (by omega) (by omega) ?_
  refine r_aload_n rfl rfl ?_
  refine r_iload_n rfl rfl ?_
  refine r_iconst rfl ?_
  refine r_iadd rfl ?_
  refine r_ixld (e := 0) rfl (by decide) hL (by omega) (by omega) ?_
  refine r_aload_n rfl rfl ?_
  refine r_iload_n rfl rfl ?_
  refine r_iconst rfl ?_
  refine r_iadd rfl ?_
  refine r_ixld (e := 0) rfl (by decide) hL (by omega) (by omega) ?_
  refine r_cV4 rfl (so0 hS) (Nat.le_of_ble_eq_true rfl) rfl rfl (c_act (d := d + 0) hS hC hk hX (hin _) (hin _) (fun z1 f1 g1 => ?_))
  have hCI := ci_A hst.1 hk f1 g1
  have hMI := mi_A hst.2.1 f1
  refine r_aload_n rfl rfl ?_
  refine r_aload_n rfl rfl ?_
  refine r_iload_n rfl rfl ?_
  refine r_iconst rfl ?_
  refine r_iadd rfl ?_
  refine r_ixld (e := 0) rfl (by decide) hL (by omega) (by omega) ?_
  refine r_aload_n rfl rfl ?_
  refine r_iload_n rfl rfl ?_
  refine r_iconst rfl ?_
  refine r_iadd rfl ?_
  refine r_ixld (e := 0) rfl (by decide) hL (by omega) (by omega) ?_
  refine r_aload_n rfl rfl ?_
  refine r_iload_n rfl rfl ?_
  refine r_iconst rfl ?_
  refine r_iadd rfl ?_
  refine r_ixld (e := 0) rfl (by decide) hL (by omega) (by omega) ?_
  refine r_cV4 rfl (so184 hS) (Nat.le_of_ble_eq_true rfl) rfl rfl (y_act2 (d := d + 0) hS hMI.1 hk (hin _) (hin _) (fun z2 e1 e2 => ?_))
  refine r_icmp_same rfl ?_
  exact nx z2 zL _ rn r _ s (rU hCI hMI ⟨hk, hrn, hG.2.2.1, nAct_l _ _ _, hok⟩ e1 e2)
set_option maxRecDepth 100000 in
set_option maxHeartbeats 1000000 in
theorem lw_26 {X : PX} {d : Nat} {S : SS} {zI zL : ZM} {Q : PQ} {mc ms : Nat} {i rn : Int} {a : FA} {r : Int → Int} {t : List Int} {s : SA} (hX : xsOK X) (hS : Sk S) (hm : MATHS) (hL : (X 0).1 ≤ 100000) (hi0 : 0 ≤ i) (hi1 : i + 6 ≤ ((X 0).1 : Int)) (hin : ∀ k, inI ((X 0).2 k)) (hst : IV S zI zL a rn r t s) (nx : ∀ z y a rn r t s, IV S z y a rn r t s → Run X (d + 9) c_Law_law 1086 [some (pR xbase), some (pR 0), some (pR 184), some (pI i)] [] S z y mc ms Q) : Run X (d + 9) c_Law_law 894 [some (pR xbase), some (pR 0), some (pR 184), some (pI i)] [] S zI zL mc ms Q := by
  have hC := hst.1.1
  have hR := hst.1.2.1
  have hT := hst.1.2.2.1
  have hSh := hst.1.2.2.2
  have hG := hst.2.2
  have hk := hG.1
  have hrn := hG.2.1
  have hok := hG.2.2.2.2
  obtain ⟨hCP, hID, hRG, hAM, hDR, hME, h8⟩ := hm a hk
  refine r_aload_n rfl rfl ?_
  refine r_aload_n rfl rfl ?_
  refine r_iload_n rfl rfl ?_
  refine r_iconst rfl ?_
  refine r_iadd rfl ?_
  refine r_ixld (e := 0) rfl (by decide) hL (by omega) (by omega) ?_
  refine r_cV2 rfl (so0 hS) (Nat.le_of_ble_eq_true rfl) rfl rfl (c_trace (d := d + 7) hS hT hG.2.2.2.1 (hin _) ?_)
  have hCI := hst.1
  have hMI := hst.2.1
  refine r_aload_n rfl rfl ?_
  refine r_aload_n rfl rfl ?_
  refine r_iload_n rfl rfl ?_
  refine r_iconst rfl ?_
  refine r_iadd rfl ?_
  refine r_ixld (e := 0) rfl (by decide) hL (by omega) (by omega) ?_
  refine r_cV2 rfl (so184 hS) (Nat.le_of_ble_eq_true rfl) rfl rfl (y_trace (d := d + 8) hS hMI.2.2.1 hG.2.2.2.1 (hin _) ?_)
  refine r_icmp_same rfl ?_
  exact nx zI zL _ rn r t s (r0 hCI hMI hG)
set_option maxRecDepth 100000 in
set_option maxHeartbeats 1000000 in
theorem lw_27 {X : PX} {d : Nat} {S : SS} {zI zL : ZM} {Q : PQ} {mc ms : Nat} {i rn : Int} {a : FA} {r : Int → Int} {t : List Int} {s : SA} (hX : xsOK X) (hS : Sk S) (hm : MATHS) (hL : (X 0).1 ≤ 100000) (hi0 : 0 ≤ i) (hi1 : i + 6 ≤ ((X 0).1 : Int)) (hin : ∀ k, inI ((X 0).2 k)) (hst : IV S zI zL a rn r t s) (nx : ∀ z y a rn r t s, IV S z y a rn r t s → Run X (d + 9) c_Law_law 1086 [some (pR xbase), some (pR 0), some (pR 184), some (pI i)] [] S z y mc ms Q) : Run X (d + 9) c_Law_law 911 [some (pR xbase), some (pR 0), some (pR 184), some (pI i)] [] S zI zL mc ms Q := by
  have hC := hst.1.1
  have hR := hst.1.2.1
  have hT := hst.1.2.2.1
  have hSh := hst.1.2.2.2
  have hG := hst.2.2
  have hk := hG.1
  have hrn := hG.2.1
  have hok := hG.2.2.2.2
  obtain ⟨hCP, hID, hRG, hAM, hDR, hME, h8⟩ := hm a hk
  refine r_aload_n rfl rfl ?_
  refine r_aload_n rfl rfl ?_
  refine r_iload_n rfl rfl ?_
  refine r_iconst rfl ?_
  refine r_iadd rfl ?_
  refine r_ixld (e := 0) rfl (by decide) hL (by omega) (by omega) ?_
  refine r_cV2 rfl (so0 hS) (Nat.le_of_ble_eq_true rfl) rfl rfl (c_count (d := d + 8) hS hC hk hR.1 hT.1 (hin _) ?_)
  have hCI := hst.1
  have hMI := hst.2.1
  refine r_aload_n rfl rfl ?_
  refine r_aload_n rfl rfl ?_
  refine r_iload_n rfl rfl ?_
  refine r_iconst rfl ?_
  refine r_iadd rfl ?_
  refine r_ixld (e := 0) rfl (by decide) hL (by omega) (by omega) ?_
  refine r_cV2 rfl (so184 hS) (Nat.le_of_ble_eq_true rfl) rfl rfl (y_count (d := d + 8) hS hMI.1 hMI.2.1.1 hMI.2.2.1.1 (hin _) ?_)
  refine r_icmp_same rfl ?_
  exact nx zI zL _ rn r t s (r0 hCI hMI hG)
set_option maxRecDepth 100000 in
set_option maxHeartbeats 1000000 in
theorem lw_28 {X : PX} {d : Nat} {S : SS} {zI zL : ZM} {Q : PQ} {mc ms : Nat} {i rn : Int} {a : FA} {r : Int → Int} {t : List Int} {s : SA} (hX : xsOK X) (hS : Sk S) (hm : MATHS) (hL : (X 0).1 ≤ 100000) (hi0 : 0 ≤ i) (hi1 : i + 6 ≤ ((X 0).1 : Int)) (hin : ∀ k, inI ((X 0).2 k)) (hst : IV S zI zL a rn r t s) (nx : ∀ z y a rn r t s, IV S z y a rn r t s → Run X (d + 9) c_Law_law 1086 [some (pR xbase), some (pR 0), some (pR 184), some (pI i)] [] S z y mc ms Q) : Run X (d + 9) c_Law_law 928 [some (pR xbase), some (pR 0), some (pR 184), some (pI i)] [] S zI zL mc ms Q := by
  have hC := hst.1.1
  have hR := hst.1.2.1
  have hT := hst.1.2.2.1
  have hSh := hst.1.2.2.2
  have hG := hst.2.2
  have hk := hG.1
  have hrn := hG.2.1
  have hok := hG.2.2.2.2
  obtain ⟨hCP, hID, hRG, hAM, hDR, hME, h8⟩ := hm a hk
  refine r_aload_n rfl rfl ?_
  refine r_aload_n rfl rfl ?_
  refine r_iload_n rfl rfl ?_
  refine r_iconst rfl ?_
  refine r_iadd rfl ?_
  refine r_ixld (e := 0) rfl (by decide) hL (by omega) (by omega) ?_
  refine r_aload_n rfl rfl ?_
  refine r_iload_n rfl rfl ?_
  refine r_iconst rfl ?_
  refine r_iadd rfl ?_
  refine r_ixld (e := 0) rfl (by decide) hL (by omega) (by omega) ?_
  refine r_aload_n rfl rfl ?_
  refine r_iload_n rfl rfl ?_
  refine r_iconst rfl ?_
  refine r_iadd rfl ?_
  refine r_ixld (e := 0) rfl (by decide) hL (by omega) (by omega) ?_
  refine r_cV4 rfl (so0 hS) (Nat.le_of_ble_eq_true rfl) rfl rfl (c_sheet (d := d + 6) hS hSh (hin _) (hin _) (hin _) (fun z1 y1 f1 f2 g1 => ?_))
  have hCI := ci_S hst.1 hk f1 f2 g1
  have hMI := mi_S hst.2.1 f1 f2
  refine r_aload_n rfl rfl ?_
  refine r_aload_n rfl rfl ?_
  refine r_iload_n rfl rfl ?_
  refine r_iconst rfl ?_
  refine r_iadd rfl ?_
  refine r_ixld (e := 0) rfl (by decide) hL (by omega) (by omega) ?_
  refine r_aload_n rfl rfl ?_
  refine r_iload_n rfl rfl ?_
  refine r_iconst rfl ?_
  refine r_iadd rfl ?_
  refine r_ixld (e := 0) rfl (by decide) hL (by omega) (by omega) ?_
  refine r_aload_n rfl rfl ?_
  refine r_iload_n rfl rfl ?_
  refine r_iconst rfl ?_
  refine r_iadd rfl ?_
  refine r_ixld (e := 0) rfl (by decide) hL (by omega) (by omega) ?_
  refine r_cV4 rfl (so184 hS) (Nat.le_of_ble_eq_true rfl) rfl rfl (y_sheet2 (d := d + 7) hS hMI.2.2.2 (hin _) (hin _) (hin _) (fun z2 e1 e2 => ?_))
  refine r_icmp_same rfl ?_
  exact nx z2 y1 _ rn r t _ (rS hCI hMI ⟨hk, hrn, hG.2.2.1, hG.2.2.2.1, SOK_nShe hok _ _ _⟩ e1 e2)
set_option maxRecDepth 100000 in
set_option maxHeartbeats 1000000 in
theorem lw_29 {X : PX} {d : Nat} {S : SS} {zI zL : ZM} {Q : PQ} {mc ms : Nat} {i rn : Int} {a : FA} {r : Int → Int} {t : List Int} {s : SA} (hX : xsOK X) (hS : Sk S) (hm : MATHS) (hL : (X 0).1 ≤ 100000) (hi0 : 0 ≤ i) (hi1 : i + 6 ≤ ((X 0).1 : Int)) (hin : ∀ k, inI ((X 0).2 k)) (hst : IV S zI zL a rn r t s) (nx : ∀ z y a rn r t s, IV S z y a rn r t s → Run X (d + 9) c_Law_law 1086 [some (pR xbase), some (pR 0), some (pR 184), some (pI i)] [] S z y mc ms Q) : Run X (d + 9) c_Law_law 965 [some (pR xbase), some (pR 0), some (pR 184), some (pI i)] [] S zI zL mc ms Q := by
  have hC := hst.1.1
  have hR := hst.1.2.1
  have hT := hst.1.2.2.1
  have hSh := hst.1.2.2.2
  have hG := hst.2.2
  have hk := hG.1
  have hrn := hG.2.1
  have hok := hG.2.2.2.2
  obtain ⟨hCP, hID, hRG, hAM, hDR, hME, h8⟩ := hm a hk
  refine r_aload_n rfl rfl ?_
  refine r_aload_n rfl rfl ?_
  refine r_iload_n rfl rfl ?_
  refine r_iconst rfl ?_
  refine r_iadd rfl ?_
  refine r_ixld (e := 0) rfl (by decide) hL (by omega) (by omega) ?_
  refine r_aload_n rfl rfl ?_
  refine r_iload_n rfl rfl ?_
  refine r_iconst rfl ?_
  refine r_iadd rfl ?_
  refine r_ixld (e := 0) rfl (by decide) hL (by omega) (by omega) ?_
  refine r_aload_n rfl rfl ?_
  refine r_iload_n rfl rfl ?_
  refine r_iconst rfl ?_
  refine r_iadd rfl ?_
  refine r_ixld (e := 0) rfl (by decide) hL (by omega) (by omega) ?_
  refine r_cV4 rfl (so0 hS) (Nat.le_of_ble_eq_true rfl) rfl rfl (c_cell (d := d + 7) hS hSh hok (hin _) (hin _) (hin _) (fun y1 f1 g1 => ?_))
  have hCI := ci_S hst.1 hk (frSc_r _) f1 g1
  have hMI := mi_S hst.2.1 (frSc_r _) f1
  refine r_aload_n rfl rfl ?_
  refine r_aload_n rfl rfl ?_
  refine r_iload_n rfl rfl ?_
  refine r_iconst rfl ?_
  refine r_iadd rfl ?_
  refine r_ixld (e := 0) rfl (by decide) hL (by omega) (by omega) ?_
  refine r_aload_n rfl rfl ?_
  refine r_iload_n rfl rfl ?_
  refine r_iconst rfl ?_
  refine r_iadd rfl ?_
  refine r_ixld (e := 0) rfl (by decide) hL (by omega) (by omega) ?_
  refine r_aload_n rfl rfl ?_
  refine r_iload_n rfl rfl ?_
  refine r_iconst rfl ?_
  refine r_iadd rfl ?_
  refine r_ixld (e := 0) rfl (by decide) hL (by omega) (by omega) ?_
  refine r_cV4 rfl (so184 hS) (Nat.le_of_ble_eq_true rfl) rfl rfl (y_cell2 (d := d + 7) hS hMI.2.2.2 hok (hin _) (hin _) (fun z2 e1 e2 => ?_))
  refine r_icmp_same rfl ?_
  exact nx z2 y1 _ rn r t _ (rS hCI hMI ⟨hk, hrn, hG.2.2.1, hG.2.2.2.1, SOK_nCel hok (hin _)⟩ e1 e2)
set_option maxRecDepth 100000 in
set_option maxHeartbeats 1000000 in
theorem lw_30 {X : PX} {d : Nat} {S : SS} {zI zL : ZM} {Q : PQ} {mc ms : Nat} {i rn : Int} {a : FA} {r : Int → Int} {t : List Int} {s : SA} (hX : xsOK X) (hS : Sk S) (hm : MATHS) (hL : (X 0).1 ≤ 100000) (hi0 : 0 ≤ i) (hi1 : i + 6 ≤ ((X 0).1 : Int)) (hin : ∀ k, inI ((X 0).2 k)) (hst : IV S zI zL a rn r t s) (nx : ∀ z y a rn r t s, IV S z y a rn r t s → Run X (d + 9) c_Law_law 1086 [some (pR xbase), some (pR 0), some (pR 184), some (pI i)] [] S z y mc ms Q) : Run X (d + 9) c_Law_law 1002 [some (pR xbase), some (pR 0), some (pR 184), some (pI i)] [] S zI zL mc ms Q := by
  have hC := hst.1.1
  have hR := hst.1.2.1
  have hT := hst.1.2.2.1
  have hSh := hst.1.2.2.2
  have hG := hst.2.2
  have hk := hG.1
  have hrn := hG.2.1
  have hok := hG.2.2.2.2
  obtain ⟨hCP, hID, hRG, hAM, hDR, hME, h8⟩ := hm a hk
  refine r_aload_n rfl rfl ?_
  refine r_aload_n rfl rfl ?_
  refine r_iload_n rfl rfl ?_
  refine r_iconst rfl ?_
  refine r_iadd rfl ?_
  refine r_ixld (e := 0) rfl (by decide) hL (by omega) (by omega) ?_
  refine r_aload_n rfl rfl ?_
  refine r_iload_n rfl rfl ?_
  refine r_iconst rfl ?_
  refine r_iadd rfl ?_
  refine r_ixld (e := 0) rfl (by decide) hL (by omega) (by omega) ?_
  refine r_aload_n rfl rfl ?_
  refine r_iload_n rfl rfl ?_
  refine r_iconst rfl ?_
  refine r_iadd rfl ?_
  refine r_ixld (e := 0) rfl (by decide) hL (by omega) (by omega) ?_
  refine r_aload_n rfl rfl ?_
  refine r_iload_n rfl rfl ?_
  refine r_iconst rfl ?_
  refine r_iadd rfl ?_
  refine r_ixld (e := 0) rfl (by decide) hL (by omega) (by omega) ?_
  refine r_aload_n rfl rfl ?_
  refine r_iload_n rfl rfl ?_
  refine r_iconst rfl ?_
  refine r_iadd rfl ?_
  refine r_ixld (e := 0) rfl (by decide) hL (by omega) (by omega) ?_
  refine r_cV6 rfl (so0 hS) (Nat.le_of_ble_eq_true rfl) rfl rfl (c_copy (d := d + 7) hS hSh hok (hin _) (hin _) (hin _) (hin _) (hin _) (fun y1 f1 g1 => ?_))
  have hCI := ci_S hst.1 hk (frSc_r _) f1 g1
  have hMI := mi_S hst.2.1 (frSc_r _) f1
  refine r_aload_n rfl rfl ?_
  refine r_aload_n rfl rfl ?_
  refine r_iload_n rfl rfl ?_
  refine r_iconst rfl ?_
  refine r_iadd rfl ?_
  refine r_ixld (e := 0) rfl (by decide) hL (by omega) (by omega) ?_
  refine r_aload_n rfl rfl ?_
  refine r_iload_n rfl rfl ?_
  refine r_iconst rfl ?_
  refine r_iadd rfl ?_
  refine r_ixld (e := 0) rfl (by decide) hL (by omega) (by omega) ?_
  refine r_aload_n rfl rfl ?_
  refine r_iload_n rfl rfl ?_
  refine r_iconst rfl ?_
  refine r_iadd rfl ?_
  refine r_ixld (e := 0) rfl (by decide) hL (by omega) (by omega) ?_
  refine r_aload_n rfl rfl ?_
  refine r_iload_n rfl rfl ?_
  refine r_iconst rfl ?_
  refine r_iadd rfl ?_
  refine r_ixld (e := 0) rfl (by decide) hL (by omega) (by omega) ?_
  refine r_aload_n rfl rfl ?_
  refine r_iload_n rfl rfl ?_
  refine r_iconst rfl ?_
  refine r_iadd rfl ?_
  refine r_ixld (e := 0) rfl (by decide) hL (by omega) (by omega) ?_
  refine r_cV6 rfl (so184 hS) (Nat.le_of_ble_eq_true rfl) rfl rfl (y_copy2 (d := d + 7) hS hMI.2.2.2 hok (hin _) (hin _) (hin _) (hin _) (hin _) (fun z2 e1 e2 => ?_))
  refine r_icmp_same rfl ?_
  exact nx z2 y1 _ rn r t _ (rS hCI hMI ⟨hk, hrn, hG.2.2.1, hG.2.2.2.1, SOK_nCop hok _ _ _ _ _⟩ e1 e2)
set_option maxRecDepth 100000 in
set_option maxHeartbeats 1000000 in
theorem lw_31 {X : PX} {d : Nat} {S : SS} {zI zL : ZM} {Q : PQ} {mc ms : Nat} {i rn : Int} {a : FA} {r : Int → Int} {t : List Int} {s : SA} (hX : xsOK X) (hS : Sk S) (hm : MATHS) (hL : (X 0).1 ≤ 100000) (hi0 : 0 ≤ i) (hi1 : i + 6 ≤ ((X 0).1 : Int)) (hin : ∀ k, inI ((X 0).2 k)) (hst : IV S zI zL a rn r t s) (nx : ∀ z y a rn r t s, IV S z y a rn r t s → Run X (d + 9) c_Law_law 1086 [some (pR xbase), some (pR 0), some (pR 184), some (pI i)] [] S z y mc ms Q) : Run X (d + 9) c_Law_law 1059 [some (pR xbase), some (pR 0), some (pR 184), some (pI i)] [] S zI zL mc ms Q := by
  have hC := hst.1.1
  have hR := hst.1.2.1
  have hT := hst.1.2.2.1
  have hSh := hst.1.2.2.2
  have hG := hst.2.2
  have hk := hG.1
  have hrn := hG.2.1
  have hok := hG.2.2.2.2
  obtain ⟨hCP, hID, hRG, hAM, hDR, hME, h8⟩ := hm a hk
  refine r_aload_n rfl rfl ?_
  refine r_aload_n rfl rfl ?_
  refine r_iload_n rfl rfl ?_
  refine r_iconst rfl ?_
  refine r_iadd rfl ?_
  refine r_ixld (e := 0) rfl (by decide) hL (by omega) (by omega) ?_
  refine r_aload_n rfl rfl ?_
  refine r_iload_n rfl rfl ?_
  refine r_iconst rfl ?_
  refine r_iadd rfl ?_
  refine r_ixld (e := 0) rfl (by decide) hL (by omega) (by omega) ?_
  refine r_cV3 rfl (so0 hS) (Nat.le_of_ble_eq_true rfl) rfl rfl (c_taken (d := d + 6) hS hC hk (hin _) (hin _) ?_)
  have hCI := hst.1
  have hMI := hst.2.1
  refine r_aload_n rfl rfl ?_
  refine r_aload_n rfl rfl ?_
  refine r_iload_n rfl rfl ?_
  refine r_iconst rfl ?_
  refine r_iadd rfl ?_
  refine r_ixld (e := 0) rfl (by decide) hL (by omega) (by omega) ?_
  refine r_aload_n rfl rfl ?_
  refine r_iload_n rfl rfl ?_
  refine r_iconst rfl ?_
  refine r_iadd rfl ?_
  refine r_ixld (e := 0) rfl (by decide) hL (by omega) (by omega) ?_
  refine r_cV3 rfl (so184 hS) (Nat.le_of_ble_eq_true rfl) rfl rfl (y_taken (d := d + 6) hS hMI.1 hk (hin _) (hin _) ?_)
  refine r_icmp_same rfl ?_
  exact nx zI zL _ rn r t s (r0 hCI hMI hG)
