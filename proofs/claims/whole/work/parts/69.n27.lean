/-! THE REFERENCE: meet, write -/
/-- number w of a meet: its point, its count -/
def mtW (ms : MTS) (i u : Int) : Int := if u = 4 then ms.2.2.2.2.2 i else prt (ms.2.1 i) (ms.2.2.1 i) (ms.2.2.2.1 i) (ms.2.2.2.2.1 i) u
def crA (a : FA) (f : Int) : KS := crL (gN a f) (gI a f) (gJ a f) (gV a f)
def prN (a : FA) (f : Int) : Int := 4 * ((edA a f).length + (crA a f).1)
def prA (a : FA) (f k : Int) : Int := prM (gI a f) (gJ a f) (edA a f) (crA a f) k
def frZ (z' z : ZM) : Prop := (∀ c, c ≠ 184 → (c < 196 ∨ 202 < c) → c ≠ 205 → z' c = z c) ∧ ∀ k, k ≠ 18 → k ≠ 27 → k ≠ 28 → k ≠ 33 → k ≠ 48 → z' 184 k = z 184 k
def frZL (z' z : ZM) : Prop := (∀ c, c ≠ 184 → c ≠ 203 → c ≠ 204 → c ≠ 214 → c ≠ 215 → z' c = z c) ∧ ∀ k, (k < 29 ∨ 32 < k) → z' 184 k = z 184 k
set_option maxHeartbeats 1000000 in
theorem y_write {X : PX} {d : Nat} {S : SS} {zI zL : ZM} {Q : PQ} (hS : Sk S) {a : FA} (hA : MF zI a) (hk : FOK a) (hcp : CPa a) {f : Int} (hf : inI f) (hQ0 : ¬ (0 ≤ f ∧ f < a.1) → Q (some (pI (-2))) S zI zL) (hQ1 : (0 ≤ f ∧ f < a.1) → ∀ z z2, frZ z zI → frZL z2 zL → MRw z z2 (prN a f) (prA a f) → Q (some (pI (prN a f))) S z z2) : wpM X (d + 7) fM_write [pR 184, pI f] S zI zL Q := by
  have hX := MF_x hA hk
  have hF0 := hA.1
  obtain ⟨kb, hkf⟩ := hk
  have hget : ∀ f, 0 ≤ f → f < zI 184 0 → (FM zI f (gN a f) (gI a f) (gJ a f) (gV a f) ∧ zI 185 f = gK a f) ∧ FR (gN a f) (gI a f) (gJ a f) (gV a f) ∧ FS (gN a f) (gI a f) (gJ a f) ∧ (0 ≤ gK a f ∧ gK a f ≤ 3) ∧ (gK a f = 0 → gN a f ≤ 12) := fun f f0 f1 => ⟨hA.2 f f0 (by omega), hkf f f0 (by omega)⟩
  have main : (0 ≤ f ∧ f < a.1) → (0 ≤ prN a f ∧ prN a f ≤ 9000) → ∀ (z z2 : ZM), frZ z zI → frPL z2 zL → z 184 48 = prN a f → (∀ k, 0 ≤ k → k < prN a f → z2 215 k = prA a f k) → ∀ k : Int, k ≤ prN a f → 0 ≤ k → ∀ z3 : ZM, (∀ c, c ≠ 214 → z3 c = z2 c) → (∀ t, 0 ≤ t → t < k → z3 214 t = prA a f t) → Run X (d + 6) c_M_write 13 [some (pR 184), some (pI f), some (pI k)] [] S z z3 0 0 Q := by
    intro ef pb z z2 hz hz2 h48 hpr
    refine loop_up _ (prN a f) (fun k hk ih k0 z3 hz3 hrow => ?_)
    refine r_iload_n rfl rfl ?_
    refine r_aload_n rfl rfl ?_
    refine r_getI rfl (so184 hS) ?_
    rw [h48]
    refine r_icmp_ge rfl (by unfold inI; omega) (by unfold inI; omega) (fun h16 => ?_) (fun h16 => ?_)
    · skip
      refine r_aload_n rfl rfl ?_
      refine r_getI rfl (so184 hS) ?_
      rw [h48]
      refine r_iret rfl ?_
      exact hQ1 ef z z3 hz ⟨fun c c0 c1 c2 c3 c4 => by rw [hz3 c c3]; exact hz2.1 c c0 c1 c2 c4, fun k hk => by rw [hz3 184 (by decide)]; exact hz2.2 k hk⟩ ⟨h48, fun t t0 t1 => hrow t t0 (by omega)⟩
    · skip
      refine r_aload_n rfl rfl ?_
      refine r_getR rfl (so184 hS) (sr184_46 hS) ?_
      refine r_iload_n rfl rfl ?_
      refine r_aload_n rfl rfl ?_
      refine r_getR rfl (so184 hS) (sr184_47 hS) ?_
      refine r_iload_n rfl rfl ?_
      refine r_lald rfl (sw215 hS) (by omega) (by omega) ?_
      rw [hz3 215 (by decide), hpr k k0 (by omega)]
      refine r_last rfl (sw214 hS) (by omega) (by omega) ?_
      refine r_iinc rfl rfl ?_
      refine r_goto rfl ?_
      refine ih (by omega) (by omega) _ (fun c hc => by rw [zput_row hc]; exact hz3 c hc) (fun t t0 t1 => ?_)
      by_cases e : t = k
      · rw [e, zput_at]
      · rw [zput_off e]; exact hrow t t0 (by omega)
  refine wp_in (C := c_M_write) (ls := [some (pR 184), some (pI f), none]) rfl rfl rfl rfl rfl ?_
  refine r_aload_n rfl rfl ?_
  refine r_iload_n rfl rfl ?_
  refine r_cV2 rfl (so184 hS) (Nat.le_of_ble_eq_true rfl) rfl rfl (x_is hS hf hX (fun p q => ?_) (fun p0 => ?_))
  · skip
    refine r_if_ne1 rfl ?_
    have ef : 0 ≤ f ∧ f < a.1 := ⟨p, by omega⟩
    obtain ⟨⟨hT, -⟩, hR, hS2, -⟩ := hget f p q
    have hc7 : (edL (gN a f) (gI a f) (gJ a f) (gV a f)).length ≤ 700 := hcp f ef.1 ef.2
    have cm := crL_m (gN a f) (gI a f) (gJ a f) (gV a f)
    refine r_aload_n rfl rfl ?_
    refine r_aload_n rfl rfl ?_
    refine r_iload_n rfl rfl ?_
    refine r_cV2 rfl (so184 hS) (Nat.le_of_ble_eq_true rfl) rfl rfl (x_prove hS (by omega) hT hR hS2 hc7 (fun z3 z4 f3 f4 hpr => ?_))
    refine r_putI rfl (so184 hS) ?_
    refine r_iconst rfl ?_
    refine r_istore_n rfl (Nat.le_of_ble_eq_true rfl) ?_
    have hm0 : 0 ≤ (crL (gN a f) (gI a f) (gJ a f) (gV a f)).1 := by
      have : ∀ (L : List EE) (s : KS), 0 ≤ s.1 → 0 ≤ (L.foldl (crE (gI a f) (gJ a f) (gV a f)) s).1 := by
        intro L
        induction L with
        | nil => intro s h; exact h
        | cons e r ih =>
          intro s h
          refine ih _ ?_
          rw [crE_eq]
          have h1 : s.1 ≤ (crF (gI a f) (gJ a f) (gV a f) s e).1 := by
            unfold crF; split
            · exact Int.le_refl _
            · exact kcS_m.1
          split
          · omega
          · have h2 := (kcS_m (s := crF (gI a f) (gJ a f) (gV a f) s e) (x := cpX (gI a f) (gJ a f) (gV a f) e.1 e.2.1 e.2.2.2) (xd := cpXD (gI a f) (gJ a f) (gV a f) e.1 e.2.1 e.2.2.2) (y := cpY (gI a f) (gJ a f) (gV a f) e.1 e.2.1 e.2.2.2) (yd := cpYD (gI a f) (gJ a f) (gV a f) e.1 e.2.1 e.2.2.2)).1
            omega
      exact this _ _ (Int.le_refl _)
    exact main ef (by unfold prN edA crA; omega) _ z4 ⟨fun c c0 c1 c2 => by rw [zput_row c0]; exact f3.1 c c0 c1 c2, fun k k0 k1 k2 k3 k4 => by rw [zput_off k4]; exact f3.2 k k0 k1 k2 k3⟩ f4 zput_at hpr 0 (by unfold prN edA crA; omega) (Int.le_refl _) z4 (fun _ _ => rfl) (fun t t0 t1 => by omega)
  · skip
    refine r_if_ne0 rfl ?_
    refine r_bipush rfl ?_
    refine r_iret rfl ?_
    exact hQ0 (by omega)
