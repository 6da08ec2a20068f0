/-! THE REFERENCE: forms of whole numbers by a prime -/
/-- the terms of a HIDDEN one: of the nine numbers from item c on, those that are not 0 -/
def hidT (it : Int → Int) (c q : Int) : Nat → Int → FV → FV
  | 0, _, F => F
  | m + 1, p, F => hidT it c q m (p + 1) (if it (c + p) = 0 then F else apV F (p / 3) (p % 3) (tim q (it (c + p))))
def hidV (it : Int → Int) (c q : Int) : FV := hidT it c q 9 0 F0V
theorem hidT_s {it : Int → Int} {c q p : Int} {F : FV} (h : p < 9) : hidT it c q (9 - p).toNat p F = hidT it c q (9 - (p + 1)).toNat (p + 1) (if it (c + p) = 0 then F else apV F (p / 3) (p % 3) (tim q (it (c + p)))) := by
  rw [show (9 - p).toNat = (9 - (p + 1)).toNat + 1 by omega]; rfl
theorem hidT_e {it : Int → Int} {c q p : Int} {F : FV} (h : 9 ≤ p) : hidT it c q (9 - p).toNat p F = F := by rw [show (9 - p).toNat = 0 by omega]; rfl
theorem tmT_b (q : Int) : ∀ (m : Nat) (x t : Int), t ≤ tmT q m x t ∧ tmT q m x t ≤ t + m
  | 0, _, t => ⟨Int.le_refl _, by show t ≤ _; omega⟩
  | m + 1, x, t => by
    unfold tmT
    split
    · have := tmT_b q m (x.tdiv q) (t + 1); omega
    · omega
theorem tim_b (q x : Int) : 0 ≤ tim q x ∧ tim q x ≤ 64 := by have := tmT_b q 64 x 0; unfold tim; omega
abbrev p39 (p : Int) : Int := p / 3 * 9 + p % 3
theorem p39_a {p : Int} (h : 0 ≤ p ∧ p < 9) : (p39 p) / 9 = p / 3 ∧ (p39 p) % 9 = p % 3 ∧ 0 ≤ p39 p ∧ p39 p < 81 := by unfold p39; omega
theorem FB_mono {F : FV} {x y : Int} (hR : FRv F) (h : FBv F x) (hx : 0 ≤ x) (hxy : x ≤ y) : FBv F y := fun t t0 t1 => by
  have h1 := h t t0 t1
  have h2 := hR.2.2 t t0 t1
  unfold lexlt at *
  omega
theorem hid_step {F : FV} {p v : Int} (hp : 0 ≤ p ∧ p < 9) (hR : FRv F) (hS : FSv F) (hB : FBv F (p39 p)) (hn : F.1 < 40) (hv : 0 ≤ v ∧ v ≤ 64) : FRv (apV F (p / 3) (p % 3) v) ∧ FSv (apV F (p / 3) (p % 3) v) ∧ FBv (apV F (p / 3) (p % 3) v) (p39 (p + 1)) := by
  obtain ⟨e1, e2, e3, e4⟩ := p39_a hp
  rw [← e1, ← e2]
  have r := ap_FR (p := p39 p) (v := v) hR hn ⟨e3, e4⟩ (by omega)
  exact ⟨r, ap_FS hS hB, FB_mono r (ap_FB hR hB) (by unfold p39; omega) (by unfold p39; omega)⟩
abbrev hidOK (k so c q : Int) (s : SA) : Prop := (q = 2 ∨ q = 3 ∨ q = 5 ∨ q = 7) ∧ (0 ≤ k ∧ k ≤ 3) ∧ (0 ≤ so ∧ so ≤ 2) ∧ s.1 k = so ∧ (0 ≤ c ∧ c + 9 ≤ s.2.1 k)
set_option maxHeartbeats 2000000 in
theorem y_hide {X : PX} {d : Nat} {S : SS} {zI zL : ZM} {Q : PQ} (hS : Sk S) {a : FA} (hA : MF zI a) (hk : FOK a) {s : SA} (hs : MSh zI s) (hok : SOK s) {k so c q : Int} (hk2 : inI k) (hso : inI so) (hc : inI c) (hq : inI q) (hQ0 : ¬ ((q = 2 ∨ q = 3 ∨ q = 5 ∨ q = 7) ∧ (0 ≤ k ∧ k ≤ 3) ∧ (0 ≤ so ∧ so ≤ 2)) → Q (some (pI (-2))) S zI zL) (hQ1 : (q = 2 ∨ q = 3 ∨ q = 5 ∨ q = 7) → (0 ≤ k ∧ k ≤ 3) → (0 ≤ so ∧ so ≤ 2) → s.1 k < 0 → Q (some (pI (-11))) S zI zL) (hQ2 : (q = 2 ∨ q = 3 ∨ q = 5 ∨ q = 7) → (0 ≤ k ∧ k ≤ 3) → (0 ≤ so ∧ so ≤ 2) → 0 ≤ s.1 k → s.1 k ≠ so → Q (some (pI (-13))) S zI zL) (hQ3 : (q = 2 ∨ q = 3 ∨ q = 5 ∨ q = 7) → (0 ≤ k ∧ k ≤ 3) → (0 ≤ so ∧ so ≤ 2) → s.1 k = so → ¬ (0 ≤ c ∧ c + 9 ≤ s.2.1 k) → Q (some (pI (-12))) S zI zL) (hQ4 : hidOK k so c q s → a.1 = 10 → Q (some (pI (-4))) S zI zL) (hQ5 : hidOK k so c q s → a.1 < 10 → ∀ z, frX z zI → MF z (addFA a 3 (hidV (s.2.2 k) c q)) → FOK (addFA a 3 (hidV (s.2.2 k) c q)) → Q (some (pI a.1)) S z zL) : wpM X (d + 2) fM_hide [pR 184, pI k, pI so, pI c, pI q] S zI zL Q := by
  have hk0 := hk
  have hX := MF_x hA hk
  have hF0 := hA.1
  obtain ⟨kb, hkf⟩ := hk
  have hget : ∀ f, 0 ≤ f → f < zI 184 0 → (FM zI f (gN a f) (gI a f) (gJ a f) (gV a f) ∧ zI 185 f = gK a f) ∧ FR (gN a f) (gI a f) (gJ a f) (gV a f) ∧ FS (gN a f) (gI a f) (gJ a f) ∧ (0 ≤ gK a f ∧ gK a f ≤ 3) ∧ (gK a f = 0 → gN a f ≤ 12) := fun f f0 f1 => ⟨hA.2 f f0 (by omega), hkf f f0 (by omega)⟩
  have main : hidOK k so c q s → a.1 < 10 → Run X (d + 1) c_M_hide 70 [some (pR 184), some (pI k), some (pI so), some (pI c), some (pI q), some (pI 1), none, none] [] S zI zL 0 0 Q := by
    intro hh hlt
    obtain ⟨hq4, hkk, hss, hsk, hcc⟩ := id hh
    obtain ⟨-, -, hit⟩ := hs k hkk.1 (by omega)
    obtain ⟨-, ⟨-, kz⟩, itb⟩ := hok k hkk.1 (by omega)
    have lp : ∀ p : Int, p ≤ 9 → 0 ≤ p → ∀ (z : ZM) (F : FV) (y7 : Option PV), frF a.1 z (zput (zput zI 185 a.1 3) 186 a.1 0) → FMv z a.1 F → FRv F → FSv F → FBv F (p39 p) → F.1 ≤ p → hidT (s.2.2 k) c q (9 - p).toNat p F = hidV (s.2.2 k) c q → Run X (d + 1) c_M_hide 84 [some (pR 184), some (pI k), some (pI so), some (pI c), some (pI q), some (pI 1), some (pI p), y7] [] S z zL 0 0 Q := by
      refine loop_up _ 9 (fun p hp ih p0 z F y7 hz hF hR hS2 hB hn hst => ?_)
      have z0 : z 184 0 = a.1 := by rw [hz.1 184 (by decide) (by decide) (by decide) (by decide), zput_row (by decide), zput_row (by decide)]; exact hF0
      have z219 : z 219 = zI 219 := by rw [hz.1 219 (by decide) (by decide) (by decide) (by decide), zput_row (by decide), zput_row (by decide)]
      refine r_iload rfl rfl ?_
      refine r_bipush rfl ?_
      refine r_icmp_ge rfl (by unfold inI; omega) (by unfold inI; omega) (fun h86 => ?_) (fun h86 => ?_)
      · skip
        refine r_aload_n rfl rfl ?_
        refine r_dupR rfl ?_
        refine r_getI rfl (so184 hS) ?_
        rw [z0]
        refine r_iconst rfl ?_
        refine r_iadd rfl ?_
        refine r_putI rfl (so184 hS) ?_
        refine r_aload_n rfl rfl ?_
        refine r_getI rfl (so184 hS) ?_
        rw [zput_at]
        refine r_iconst rfl ?_
        refine r_isub rfl ?_
        refine r_iret rfl ?_
        rw [hidT_e (by omega)] at hst
        subst hst
        rw [show a.1 + 1 - 1 = a.1 by omega]
        have hg : frG a.1 (zput z 184 0 (a.1 + 1)) zI := ⟨fun c c0 c1 c2 c3 c4 c5 => by rw [zput_row c0, hz.1 c c2 c3 c4 c5, zput_row c2, zput_row c1], fun k hk => by rw [zput_off hk, hz.1 184 (by decide) (by decide) (by decide) (by decide), zput_row (by decide), zput_row (by decide)], fun k hk => by rw [zput_row (by decide), hz.1 185 (by decide) (by decide) (by decide) (by decide), zput_row (by decide), zput_off hk], fun k hk => by rw [zput_row (by decide), hz.2.1 k hk, zput_off hk, zput_row (by decide)], fun k hk => by
          obtain ⟨w1, w2, w3⟩ := hz.2.2 k hk
          rw [zput_row (by decide), zput_row (by decide), zput_row (by decide), w1, w2, w3, zput_row (by decide), zput_row (by decide), zput_row (by decide), zput_row (by decide), zput_row (by decide), zput_row (by decide)]
          exact ⟨rfl, rfl, rfl⟩⟩
        exact hQ5 hh hlt _ (frX_G (frX_r zI) hg) (MF_add hA hk0 hg zput_at (by rw [zput_row (by decide), hz.1 185 (by decide) (by decide) (by decide) (by decide), zput_row (by decide), zput_at]) (FM_fr hF (fun c c0 c1 => zput_row (by omega)))) (FOK_add hk0 hlt hR hS2 (by decide) (fun q => absurd q (by decide)))
      · skip
        refine r_aload_n rfl rfl ?_
        refine r_getR rfl (so184 hS) (sr184_53 hS) ?_
        refine r_bipush rfl ?_
        refine r_iload_n rfl rfl ?_
        refine r_imul rfl ?_
        refine r_iload_n rfl rfl ?_
        refine r_iadd rfl ?_
        refine r_iload rfl rfl ?_
        refine r_iadd rfl ?_
        refine r_iald rfl (sw219 hS) (by omega) (by omega) ?_
        have hv1 : z 219 (40 * k + c + p) = s.2.2 k (c + p) := by rw [z219, show 40 * k + c + p = 40 * k + (c + p) by omega]; exact hit (c + p) (by omega) (by omega)
        have hvb := itb (c + p) (by omega) (by omega)
        have e39 := p39_a ⟨p0, show p < 9 by omega⟩
        rw [hidT_s (by omega)] at hst
        rw [hv1]
        refine r_istore rfl (Nat.le_of_ble_eq_true rfl) ?_
        refine r_iload rfl rfl ?_
        refine r_if_eq rfl hvb (fun h99 => ?_) (fun h99 => ?_)
        · skip
          refine r_iinc rfl rfl ?_
          refine r_goto rfl ?_
          rw [if_pos h99] at hst
          exact ih (by omega) (by omega) z F _ hz hF hR hS2 (FB_mono hR hB (by unfold p39; omega) (by unfold p39; omega)) (by omega) hst
        · skip
          refine r_aload_n rfl rfl ?_
          refine r_aload_n rfl rfl ?_
          refine r_getI rfl (so184 hS) ?_
          rw [z0]
          refine r_iload rfl rfl ?_
          refine r_iconst rfl ?_
          refine r_idiv rfl (by unfold inI; omega) (by unfold inI; omega) (by omega) ?_
          rw [show p.tdiv 3 = p / 3 from Int.tdiv_eq_ediv_of_nonneg p0]
          refine r_iload rfl rfl ?_
          refine r_iconst rfl ?_
          refine r_irem rfl (by unfold inI; omega) (by unfold inI; omega) (by omega) ?_
          rw [show p.tmod 3 = p % 3 from Int.tmod_eq_emod_of_nonneg p0]
          refine r_aload_n rfl rfl ?_
          refine r_iload rfl rfl ?_
          refine r_iload rfl rfl ?_
          refine r_cV3 rfl (so184 hS) (Nat.le_of_ble_eq_true rfl) rfl rfl (x_timesIn hS (by omega) hvb h99 ?_)
          refine r_cV5 rfl (so184 hS) (Nat.le_of_ble_eq_true rfl) rfl rfl (x_insert hS (by omega) hF hR hS2 (by omega) (by unfold inI; omega) (by unfold inI; omega) (fun t t0 t1 => by
            have h1 := FB_no hB t t0 t1
            rw [e39.1, e39.2.1] at h1; exact h1) (fun z2 f2 hM2 => ?_))
          refine r_iinc rfl rfl ?_
          refine r_goto rfl ?_
          rw [if_neg h99] at hst
          obtain ⟨r1, r2, r3⟩ := hid_step ⟨p0, show p < 9 by omega⟩ hR hS2 hB (by omega) (tim_b q (s.2.2 k (c + p)))
          refine ih (by omega) (by omega) z2 _ _ (frF_t hz f2) ?_ r1 r2 r3 (by show F.1 + 1 ≤ p + 1; omega) hst
          have h3 := ap_FM (p := p39 p) (v := tim q (s.2.2 k (c + p))) (z' := z2) (f := a.1) hR.1 hB
          rw [e39.1, e39.2.1] at h3
          exact h3 hM2
    refine r_aload_n rfl rfl ?_
    refine r_getR rfl (so184 hS) (sr184_1 hS) ?_
    refine r_aload_n rfl rfl ?_
    refine r_getI rfl (so184 hS) ?_
    rw [hF0]
    refine r_iconst rfl ?_
    refine r_iast rfl (sw185 hS) (by omega) (by omega) ?_
    refine r_aload_n rfl rfl ?_
    refine r_getR rfl (so184 hS) (sr184_2 hS) ?_
    refine r_aload_n rfl rfl ?_
    refine r_getI rfl (so184 hS) ?_
    rw [zput_row (show (184 : Nat) ≠ 185 by decide), hF0]
    refine r_iconst rfl ?_
    refine r_iast rfl (sw186 hS) (by omega) (by omega) ?_
    refine r_iconst rfl ?_
    refine r_istore rfl (Nat.le_of_ble_eq_true rfl) ?_
    exact lp 0 (by decide) (Int.le_refl _) _ F0V _ (frF_r _ _) ⟨zput_at, fun t t0 t1 => absurd t1 (by show ¬ t < 0; omega)⟩ ⟨Int.le_refl _, by show (0 : Int) ≤ 40; omega, fun t t0 t1 => absurd t1 (by show ¬ t < 0; omega)⟩ (fun s t s0 st t1 => absurd t1 (by show ¬ t < 0; omega)) (fun t t0 t1 => absurd t1 (by show ¬ t < 0; omega)) (Int.le_refl _) rfl
  have go16 : ∀ v : Int, ((v = 1 ∧ (q = 2 ∨ q = 3 ∨ q = 5 ∨ q = 7)) ∨ (v = 0 ∧ ¬ (q = 2 ∨ q = 3 ∨ q = 5 ∨ q = 7))) → Run X (d + 1) c_M_hide 16 [some (pR 184), some (pI k), some (pI so), some (pI c), some (pI q), some (pI v), none, none] [] S zI zL 0 0 Q := by
    intro v hv
    refine r_iload rfl rfl ?_
    refine r_if_eq rfl (by unfold inI; omega) (fun h17 => ?_) (fun h17 => ?_)
    · skip
      refine r_bipush rfl ?_
      refine r_iret rfl ?_
      exact hQ0 (fun k => by omega)
    · skip
      refine r_aload_n rfl rfl ?_
      refine r_iload_n rfl rfl ?_
      refine r_iconst rfl ?_
      refine r_iconst rfl ?_
      refine r_cV4 rfl (so184 hS) (Nat.le_of_ble_eq_true rfl) rfl rfl (x_in hS hk2 (by unfold inI; omega) (by unfold inI; omega) (fun p1 p2 => ?_) (fun p0 => ?_))
      · skip
        refine r_if_eq1 rfl ?_
        refine r_aload_n rfl rfl ?_
        refine r_iload_n rfl rfl ?_
        refine r_iconst rfl ?_
        refine r_iconst rfl ?_
        refine r_cV4 rfl (so184 hS) (Nat.le_of_ble_eq_true rfl) rfl rfl (x_in hS hso (by unfold inI; omega) (by unfold inI; omega) (fun p3 p4 => ?_) (fun p0 => ?_))
        · skip
          refine r_if_ne1 rfl ?_
          obtain ⟨k1, k2, -⟩ := hs k p1 (by omega)
          obtain ⟨kb1, kb2, -⟩ := hok k p1 (by omega)
          have hpr : q = 2 ∨ q = 3 ∨ q = 5 ∨ q = 7 := by omega
          rw [show v = 1 by omega]
          refine r_aload_n rfl rfl ?_
          refine r_getR rfl (so184 hS) (sr184_51 hS) ?_
          refine r_iload_n rfl rfl ?_
          refine r_iald rfl (sw217 hS) (by omega) (by omega) ?_
          rw [k1]
          refine r_if_lt rfl (by unfold inI; omega) (fun h36 => ?_) (fun h36 => ?_)
          · skip
            refine r_aload_n rfl rfl ?_
            refine r_getR rfl (so184 hS) (sr184_51 hS) ?_
            refine r_iload_n rfl rfl ?_
            refine r_iald rfl (sw217 hS) (by omega) (by omega) ?_
            rw [k1]
            refine r_if_ge rfl (by unfold inI; omega) (fun h49 => ?_) (fun h49 => ?_)
            · skip
              refine r_iload_n rfl rfl ?_
              refine r_if_lt rfl hc (fun h53 => ?_) (fun h53 => ?_)
              · skip
                refine r_bipush rfl ?_
                refine r_iret rfl ?_
                exact hQ3 hpr ⟨p1, p2⟩ ⟨p3, p4⟩ (by omega) (by omega)
              · skip
                refine r_iload_n rfl rfl ?_
                refine r_aload_n rfl rfl ?_
                refine r_getR rfl (so184 hS) (sr184_52 hS) ?_
                refine r_iload_n rfl rfl ?_
                refine r_iald rfl (sw218 hS) (by omega) (by omega) ?_
                rw [k2]
                refine r_bipush rfl ?_
                refine r_isub rfl ?_
                refine r_icmp_le rfl hc (by unfold inI; omega) (fun h61 => ?_) (fun h61 => ?_)
                · skip
                  refine r_aload_n rfl rfl ?_
                  refine r_getI rfl (so184 hS) ?_
                  rw [hF0]
                  refine r_bipush rfl ?_
                  refine r_icmp_ne rfl (by unfold inI; omega) (by unfold inI; omega) (fun h67 => ?_) (fun h67 => ?_)
                  · skip
                    exact main ⟨hpr, ⟨p1, p2⟩, ⟨p3, p4⟩, by omega, by omega, by omega⟩ (by omega)
                  · skip
                    refine r_bipush rfl ?_
                    refine r_iret rfl ?_
                    exact hQ4 ⟨hpr, ⟨p1, p2⟩, ⟨p3, p4⟩, by omega, by omega, by omega⟩ (by omega)
                · skip
                  refine r_bipush rfl ?_
                  refine r_iret rfl ?_
                  exact hQ3 hpr ⟨p1, p2⟩ ⟨p3, p4⟩ (by omega) (by omega)
            · skip
              refine r_bipush rfl ?_
              refine r_iret rfl ?_
              exact hQ1 hpr ⟨p1, p2⟩ ⟨p3, p4⟩ (by omega)
          · skip
            refine r_aload_n rfl rfl ?_
            refine r_getR rfl (so184 hS) (sr184_51 hS) ?_
            refine r_iload_n rfl rfl ?_
            refine r_iald rfl (sw217 hS) (by omega) (by omega) ?_
            rw [k1]
            refine r_iload_n rfl rfl ?_
            refine r_icmp_eq rfl (by unfold inI; omega) hso (fun h42 => ?_) (fun h42 => ?_)
            · skip
              refine r_aload_n rfl rfl ?_
              refine r_getR rfl (so184 hS) (sr184_51 hS) ?_
              refine r_iload_n rfl rfl ?_
              refine r_iald rfl (sw217 hS) (by omega) (by omega) ?_
              rw [k1]
              refine r_if_ge rfl (by unfold inI; omega) (fun h49 => ?_) (fun h49 => ?_)
              · skip
                refine r_iload_n rfl rfl ?_
                refine r_if_lt rfl hc (fun h53 => ?_) (fun h53 => ?_)
                · skip
                  refine r_bipush rfl ?_
                  refine r_iret rfl ?_
                  exact hQ3 hpr ⟨p1, p2⟩ ⟨p3, p4⟩ (by omega) (by omega)
                · skip
                  refine r_iload_n rfl rfl ?_
                  refine r_aload_n rfl rfl ?_
                  refine r_getR rfl (so184 hS) (sr184_52 hS) ?_
                  refine r_iload_n rfl rfl ?_
                  refine r_iald rfl (sw218 hS) (by omega) (by omega) ?_
                  rw [k2]
                  refine r_bipush rfl ?_
                  refine r_isub rfl ?_
                  refine r_icmp_le rfl hc (by unfold inI; omega) (fun h61 => ?_) (fun h61 => ?_)
                  · skip
                    refine r_aload_n rfl rfl ?_
                    refine r_getI rfl (so184 hS) ?_
                    rw [hF0]
                    refine r_bipush rfl ?_
                    refine r_icmp_ne rfl (by unfold inI; omega) (by unfold inI; omega) (fun h67 => ?_) (fun h67 => ?_)
                    · skip
                      exact main ⟨hpr, ⟨p1, p2⟩, ⟨p3, p4⟩, by omega, by omega, by omega⟩ (by omega)
                    · skip
                      refine r_bipush rfl ?_
                      refine r_iret rfl ?_
                      exact hQ4 ⟨hpr, ⟨p1, p2⟩, ⟨p3, p4⟩, by omega, by omega, by omega⟩ (by omega)
                  · skip
                    refine r_bipush rfl ?_
                    refine r_iret rfl ?_
                    exact hQ3 hpr ⟨p1, p2⟩ ⟨p3, p4⟩ (by omega) (by omega)
              · skip
                refine r_bipush rfl ?_
                refine r_iret rfl ?_
                exact hQ1 hpr ⟨p1, p2⟩ ⟨p3, p4⟩ (by omega)
            · skip
              refine r_bipush rfl ?_
              refine r_iret rfl ?_
              exact hQ2 hpr ⟨p1, p2⟩ ⟨p3, p4⟩ (by omega) (by omega)
        · skip
          refine r_if_ne0 rfl ?_
          refine r_bipush rfl ?_
          refine r_iret rfl ?_
          exact hQ0 (fun k => p0 k.2.2)
      · skip
        refine r_if_eq0 rfl ?_
        refine r_bipush rfl ?_
        refine r_iret rfl ?_
        exact hQ0 (fun k => p0 k.2.1)
  refine wp_in (C := c_M_hide) (ls := [some (pR 184), some (pI k), some (pI so), some (pI c), some (pI q), none, none, none]) rfl rfl rfl rfl rfl ?_
  refine r_iload rfl rfl ?_
  refine r_iconst rfl ?_
  refine r_icmp_eq rfl hq (by unfold inI; omega) (fun h2 => ?_) (fun h2 => ?_)
  · skip
    refine r_iconst rfl ?_
    refine r_goto rfl ?_
    refine r_istore rfl (Nat.le_of_ble_eq_true rfl) ?_
    exact go16 1 (by omega)
  · skip
    refine r_iload rfl rfl ?_
    refine r_iconst rfl ?_
    refine r_icmp_eq rfl hq (by unfold inI; omega) (fun h5 => ?_) (fun h5 => ?_)
    · skip
      refine r_iconst rfl ?_
      refine r_goto rfl ?_
      refine r_istore rfl (Nat.le_of_ble_eq_true rfl) ?_
      exact go16 1 (by omega)
    · skip
      refine r_iload rfl rfl ?_
      refine r_iconst rfl ?_
      refine r_icmp_eq rfl hq (by unfold inI; omega) (fun h8 => ?_) (fun h8 => ?_)
      · skip
        refine r_iconst rfl ?_
        refine r_goto rfl ?_
        refine r_istore rfl (Nat.le_of_ble_eq_true rfl) ?_
        exact go16 1 (by omega)
      · skip
        refine r_iload rfl rfl ?_
        refine r_bipush rfl ?_
        refine r_icmp_ne rfl hq (by unfold inI; omega) (fun h11 => ?_) (fun h11 => ?_)
        · skip
          refine r_iconst rfl ?_
          refine r_istore rfl (Nat.le_of_ble_eq_true rfl) ?_
          exact go16 0 (by omega)
        · skip
          refine r_iconst rfl ?_
          refine r_goto rfl ?_
          refine r_istore rfl (Nat.le_of_ble_eq_true rfl) ?_
          exact go16 1 (by omega)
