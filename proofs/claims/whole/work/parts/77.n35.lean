/-! THE REFERENCE: check -/
theorem crL_R {n : Int} {I J V : Int → Int} (hR : FR n I J V) : CrR (crL n I J V) := by
  have hok := edL_ok (I := I) (J := J) (V := V) hR.1
  have step : ∀ (L : List EE) (s : KS), (∀ e ∈ L, edOK n I J V e) → CrR s → CrR (L.foldl (crE I J V) s) := by
    intro L
    induction L with
    | nil => intro s _ h; exact h
    | cons e r ih =>
      intro s ho h
      refine ih _ (fun x hx => ho x (List.mem_cons_of_mem _ hx)) ?_
      obtain ⟨o1, o2, o3, o4⟩ := ho e (List.mem_cons_self ..)
      obtain ⟨k1, k2⟩ := stF_ok hR.1 o4
      have h1 : CrR (crF I J V s e) := by
        unfold crF
        by_cases c : e.2.2.1 = -1
        · rw [if_pos c]; exact h
        · rw [if_neg c]
          rcases k1 with q | ⟨q1, q2, q3⟩
          · exact absurd q c
          · exact kcS_R h (cp_b hR ⟨o1, by omega⟩ ⟨by omega, o3⟩ ⟨q1, q2⟩ (by omega))
      rw [crE_eq]
      by_cases c : e.2.2.2 = -1
      · rw [if_pos c]; exact h1
      · rw [if_neg c]
        rcases k2 with q | ⟨q1, q2, q3⟩
        · exact absurd q c
        · exact kcS_R h1 (cp_b hR ⟨o1, by omega⟩ ⟨by omega, o3⟩ ⟨q1, q2⟩ (by omega))
  exact step _ _ hok ⟨Int.le_refl _, fun t t0 t1 => absurd t1 (by show ¬ t < 0; omega)⟩
theorem prM_b {n : Int} {I J V : Int → Int} (hR : FR n I J V) (hS2 : FS n I J) {k : Int} (k0 : 0 ≤ k) (k1 : k < 4 * (((edL n I J V).length : Int) + (crL n I J V).1)) : -10000 ≤ prM I J (edL n I J V) (crL n I J V) k ∧ prM I J (edL n I J V) (crL n I J V) k ≤ 10000 := by
  by_cases c : k / 4 < ((edL n I J V).length : Int)
  · have hlt : (k / 4).toNat < (edL n I J V).length := by omega
    obtain ⟨g, hge⟩ : ∃ g, (edL n I J V)[(k / 4).toNat]? = some g := ⟨_, List.getElem?_eq_getElem hlt⟩
    obtain ⟨o1, o2, o3, -⟩ := edL_ok (I := I) (J := J) (V := V) hR.1 g (List.mem_of_getElem? hge)
    unfold prM
    rw [hge]
    show -10000 ≤ edW I J g (k % 4) ∧ edW I J g (k % 4) ≤ 10000
    obtain ⟨d1, d2, d3⟩ := dif_b hR ⟨o1, show g.1 < n by omega⟩ ⟨show 0 ≤ g.2.1 by omega, o3⟩
    have hlex := hS2 g.1 g.2.1 o1 o2 o3
    have db := dir_b (I := I) (J := J) (a := g.1) (b := g.2.1) (by unfold lexlt at hlex; omega) d1 d2
    have gb := gc_b (a := I g.2.1 - I g.1) (b := J g.2.1 - J g.1) (B := 8) d1 d2 (by decide)
    have kb := knd_b g.2.2.1 g.2.2.2
    unfold edW
    split
    · omega
    · split
      · omega
      · split
        · omega
        · omega
  · unfold prM
    rw [List.getElem?_eq_none (by omega)]
    have hc := (crL_R hR).2 (k / 4 - ((edL n I J V).length : Int)) (by omega) (by omega)
    obtain ⟨⟨p1, p2, p3, p4⟩, p5, p6, p7, p8⟩ := hc
    show -10000 ≤ prt _ _ _ _ (k % 4) ∧ prt _ _ _ _ (k % 4) ≤ 10000
    unfold prt
    split
    · omega
    · split
      · omega
      · split
        · omega
        · omega
theorem prA_b {a : FA} (hk : FOK a) {f k : Int} (hf : 0 ≤ f ∧ f < a.1) (k0 : 0 ≤ k) (k1 : k < prN a f) : -10000 ≤ prA a f k ∧ prA a f k ≤ 10000 := by
  obtain ⟨hR, hS2, -, -⟩ := hk.2 f hf.1 hf.2
  exact prM_b hR hS2 k0 (by unfold prN edA crA at k1; exact k1)
theorem prN_b {a : FA} (hk : FOK a) (hcp : CPa a) {f : Int} (hf : 0 ≤ f ∧ f < a.1) : 0 ≤ prN a f ∧ prN a f ≤ 8400 := by
  obtain ⟨hR, hS2, -, -⟩ := hk.2 f hf.1 hf.2
  have h1 := crL_m (gN a f) (gI a f) (gJ a f) (gV a f)
  have h2 := (crL_R hR).1
  have h3 := hcp f hf.1 hf.2
  unfold edA at h3
  unfold prN edA crA
  omega
def sChk (a : FA) (rn : Int) (r : Int → Int) (f : Int) : Int := if ¬ (0 ≤ f ∧ f < a.1) then -2 else if srch (fun k => decide (r k ≠ prA a f k)) (min (prN a f) rn).toNat 0 ≠ -1 then srch (fun k => decide (r k ≠ prA a f k)) (min (prN a f) rn).toNat 0 else if prN a f = rn then -1 else min (prN a f) rn
set_option maxHeartbeats 1000000 in
theorem y_check {X : PX} {d : Nat} {S : SS} {zI zL : ZM} {Q : PQ} (hS : Sk S) {a : FA} (hA : MF zI a) (hk : FOK a) (hcp : CPa a) {rn : Int} {r : Int → Int} (hr : MRw zI zL rn r) (hn : 0 ≤ rn ∧ rn ≤ 9000) (hrb : ∀ k, 0 ≤ k → k < rn → inL (r k)) {f : Int} (hf : inI f) (hQ : ∀ z z2, frK z zI → frPL z2 zL → Q (some (pI (sChk a rn r f))) S z z2) : wpM X (d + 7) fM_check [pR 184, pI f] S zI zL Q := by
  have hk0 := hk
  have hX := MF_x hA hk
  have hF0 := hA.1
  obtain ⟨kb, hkf⟩ := hk
  have hget : ∀ f, 0 ≤ f → f < zI 184 0 → (FM zI f (gN a f) (gI a f) (gJ a f) (gV a f) ∧ zI 185 f = gK a f) ∧ FR (gN a f) (gI a f) (gJ a f) (gV a f) ∧ FS (gN a f) (gI a f) (gJ a f) ∧ (0 ≤ gK a f ∧ gK a f ≤ 3) ∧ (gK a f = 0 → gN a f ≤ 12) := fun f f0 f1 => ⟨hA.2 f f0 (by omega), hkf f f0 (by omega)⟩
  unfold sChk at hQ
  have main : (0 ≤ f ∧ f < a.1) → ∀ (z z2 : ZM), frK z zI → frPL z2 zL → z 184 48 = rn → (∀ k, 0 ≤ k → k < rn → z2 214 k = r k) → (∀ k, 0 ≤ k → k < prN a f → z2 215 k = prA a f k) → ∀ k : Int, k ≤ min (prN a f) rn → 0 ≤ k → srch (fun k => decide (r k ≠ prA a f k)) (min (prN a f) rn - k).toNat k = srch (fun k => decide (r k ≠ prA a f k)) (min (prN a f) rn).toNat 0 → Run X (d + 6) c_M_check 12 [some (pR 184), some (pI f), some (pI (prN a f)), some (pI k)] [] S z z2 0 0 Q := by
    intro ef z z2 hz hz2 h48 hrw hpr
    have pb := prN_b hk0 hcp ef
    refine loop_up _ (min (prN a f) rn) (fun k hk ih k0 hs => ?_)
    refine r_iload_n rfl rfl ?_
    refine r_iload_n rfl rfl ?_
    refine r_icmp_lt rfl (by unfold inI; omega) (by unfold inI; omega) (fun h14 => ?_) (fun h14 => ?_)
    · skip
      refine r_iload_n rfl rfl ?_
      refine r_iload_n rfl rfl ?_
      refine r_icmp_ge rfl (by unfold inI; omega) (by unfold inI; omega) (fun h21 => ?_) (fun h21 => ?_)
      · skip
        exact absurd h14 (by omega)
      · skip
        refine r_iload_n rfl rfl ?_
        refine r_aload_n rfl rfl ?_
        refine r_getI rfl (so184 hS) ?_
        rw [h48]
        refine r_icmp_ge rfl (by unfold inI; omega) (by unfold inI; omega) (fun h25 => ?_) (fun h25 => ?_)
        · skip
          have e1 : srch (fun k => decide (r k ≠ prA a f k)) (min (prN a f) rn).toNat 0 = -1 := by rw [← hs]; exact srch_end (by omega)
          rw [if_neg (fun q => q ef), if_neg (fun q => q e1), if_neg (by omega), show min (prN a f) rn = k by omega] at hQ
          refine r_iload_n rfl rfl ?_
          refine r_iret rfl ?_
          exact hQ z z2 hz hz2
        · skip
          have pab := prA_b hk0 ef k0 (show k < prN a f by omega)
          have hrk := hrb k k0 (by omega)
          refine r_aload_n rfl rfl ?_
          refine r_getR rfl (so184 hS) (sr184_46 hS) ?_
          refine r_iload_n rfl rfl ?_
          refine r_lald rfl (sw214 hS) (by omega) (by omega) ?_
          rw [hrw k k0 (by omega)]
          refine r_aload_n rfl rfl ?_
          refine r_getR rfl (so184 hS) (sr184_47 hS) ?_
          refine r_iload_n rfl rfl ?_
          refine r_lald rfl (sw215 hS) (by omega) (by omega) ?_
          rw [hpr k k0 (by omega)]
          refine r_l_eq rfl rfl hrk (by unfold inL; omega) (fun h35 => ?_) (fun h35 => ?_)
          · skip
            refine r_iinc rfl rfl ?_
            refine r_goto rfl ?_
            exact ih (by omega) (by omega) (by rw [← srch_miss (by omega) (by simp only [decide_eq_false_iff_not]; exact fun q => q h35)]; exact hs)
          · skip
            rw [srch_hit (by omega) (by simp only [decide_eq_true_eq]; exact h35)] at hs
            rw [if_neg (fun q => q ef), if_pos (by omega), ← hs] at hQ
            refine r_iload_n rfl rfl ?_
            refine r_iret rfl ?_
            exact hQ z z2 hz hz2
    · skip
      refine r_iload_n rfl rfl ?_
      refine r_aload_n rfl rfl ?_
      refine r_getI rfl (so184 hS) ?_
      rw [h48]
      refine r_icmp_ge rfl (by unfold inI; omega) (by unfold inI; omega) (fun h18 => ?_) (fun h18 => ?_)
      · skip
        refine r_iconst rfl ?_
        refine r_iret rfl ?_
        have e1 : srch (fun k => decide (r k ≠ prA a f k)) (min (prN a f) rn).toNat 0 = -1 := by rw [← hs]; exact srch_end (by omega)
        rw [if_neg (fun q => q ef), if_neg (fun q => q e1), if_pos (by omega)] at hQ
        exact hQ z z2 hz hz2
      · skip
        refine r_iload_n rfl rfl ?_
        refine r_iload_n rfl rfl ?_
        refine r_icmp_ge rfl (by unfold inI; omega) (by unfold inI; omega) (fun h21 => ?_) (fun h21 => ?_)
        · skip
          have e1 : srch (fun k => decide (r k ≠ prA a f k)) (min (prN a f) rn).toNat 0 = -1 := by rw [← hs]; exact srch_end (by omega)
          rw [if_neg (fun q => q ef), if_neg (fun q => q e1), if_neg (by omega), show min (prN a f) rn = k by omega] at hQ
          refine r_iload_n rfl rfl ?_
          refine r_iret rfl ?_
          exact hQ z z2 hz hz2
        · skip
          exact absurd h14 (by omega)
  refine wp_in (C := c_M_check) (ls := [some (pR 184), some (pI f), none, none]) rfl rfl rfl rfl rfl ?_
  refine r_aload_n rfl rfl ?_
  refine r_iload_n rfl rfl ?_
  refine r_cV2 rfl (so184 hS) (Nat.le_of_ble_eq_true rfl) rfl rfl (x_is hS hf hX (fun p q => ?_) (fun p0 => ?_))
  · skip
    refine r_if_ne1 rfl ?_
    have ef : 0 ≤ f ∧ f < a.1 := ⟨p, by omega⟩
    obtain ⟨⟨hT, -⟩, hR, hS2, -⟩ := hget f p q
    have hc7 : (edL (gN a f) (gI a f) (gJ a f) (gV a f)).length ≤ 700 := hcp f ef.1 ef.2
    have pb := prN_b hk0 hcp ef
    refine r_aload_n rfl rfl ?_
    refine r_iload_n rfl rfl ?_
    refine r_cV2 rfl (so184 hS) (Nat.le_of_ble_eq_true rfl) rfl rfl (x_prove hS (by omega) hT hR hS2 hc7 (fun z3 z4 f3 f4 hpr => ?_))
    refine r_istore_n rfl (Nat.le_of_ble_eq_true rfl) ?_
    refine r_iconst rfl ?_
    refine r_istore_n rfl (Nat.le_of_ble_eq_true rfl) ?_
    exact main ef z3 z4 f3 f4 ((f3.2 48 (by decide) (by decide) (by decide) (by decide)).trans hr.1) (fun k k0 k1 => by rw [f4.1 214 (by decide) (by decide) (by decide) (by decide)]; exact hr.2 k k0 k1) hpr 0 (by omega) (Int.le_refl _) (by rw [Int.sub_zero])
  · skip
    refine r_if_ne0 rfl ?_
    refine r_bipush rfl ?_
    refine r_iret rfl ?_
    rw [if_pos (by omega)] at hQ; exact hQ zI zL ⟨fun _ _ _ _ => rfl, fun _ _ _ _ _ => rfl⟩ ⟨fun _ _ _ _ _ => rfl, fun _ _ => rfl⟩
