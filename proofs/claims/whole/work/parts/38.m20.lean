/-! CURVES: the drawing -/
def c00 : CS := mkC 0 (fun _ => 0) (fun _ => 0) (fun _ => 0) (fun _ => 0) 0 (fun _ => 0) (fun _ => 0) (fun _ => 0) (fun _ => 0)
def drwE (n : Int) (I J V : Int → Int) (s : CS) (a b : Int) : CS := if cNE s < 114 then (match stF n I J V a b with | none => s | some (l, g) => addS I J V s a b l g) else s
def drwJ (n : Int) (I J V : Int → Int) (a : Int) : Nat → Int → CS → CS
  | 0, _, s => s
  | f + 1, b, s => drwJ n I J V a f (b + 1) (drwE n I J V s a b)
def drwI (n : Int) (I J V : Int → Int) : Nat → Int → CS → CS
  | 0, _, s => s
  | f + 1, a, s => drwI n I J V f (a + 1) (drwJ n I J V a (n - (a + 1)).toNat (a + 1) s)
/-- THE CURVE of a form's terms -/
def drwS (n : Int) (I J V : Int → Int) : CS := drwI n I J V n.toNat 0 c00
theorem drwJ_s {n a b : Int} {I J V : Int → Int} {s : CS} (h : b < n) : drwJ n I J V a (n - b).toNat b s = drwJ n I J V a (n - (b + 1)).toNat (b + 1) (drwE n I J V s a b) := by rw [show (n - b).toNat = (n - (b + 1)).toNat + 1 by omega]; rfl
theorem drwJ_e {n a b : Int} {I J V : Int → Int} {s : CS} (h : n ≤ b) : drwJ n I J V a (n - b).toNat b s = s := by rw [show (n - b).toNat = 0 by omega]; rfl
theorem drwI_s {n a : Int} {I J V : Int → Int} {s : CS} (h : a < n) : drwI n I J V (n - a).toNat a s = drwI n I J V (n - (a + 1)).toNat (a + 1) (drwJ n I J V a (n - (a + 1)).toNat (a + 1) s) := by
  conv => lhs; rw [show (n - a).toNat = (n - (a + 1)).toNat + 1 by omega]
  rfl
theorem drwI_e {n a : Int} {I J V : Int → Int} {s : CS} (h : n ≤ a) : drwI n I J V (n - a).toNat a s = s := by rw [show (n - a).toNat = 0 by omega]; rfl
def frD (h : Nat) (z zL : ZM) : Prop := ∀ c, (c < h + 4 ∨ c = h + 6 ∨ h + 10 < c) → z c = zL c
theorem frD_t {h : Nat} {z z2 z3 : ZM} (h1 : frD h z2 z) (h2 : frD h z3 z2) : frD h z3 z := fun c hc => (h2 c hc).trans (h1 c hc)
theorem CvT_cell {S : SS} {zI zL zL' : ZM} {h : Nat} {n : Int} {I J V : Int → Int} {s : CS} (hC : CvT S zI zL h n I J V s) (hz : ∀ c, c ≠ h + 4 → zL' c = zL c) : CvT S zI zL' h n I J V s := CvH_fr hC (fun c _ _ => rfl) (fun c c0 c1 => hz c (by omega))
theorem loop_from (P : Int → Prop) (n lo : Int) (step : ∀ k, k ≤ n → (k < n → lo ≤ k + 1 → P (k + 1)) → lo ≤ k → P k) : ∀ k, k ≤ n → lo ≤ k → P k := by
  intro k hk hl
  obtain ⟨m, hm⟩ : ∃ m : Nat, n - k = m := ⟨(n - k).toNat, by omega⟩
  induction m generalizing k with
  | zero => exact step k hk (fun q => by omega) hl
  | succ m ih => exact step k hk (fun q q2 => ih (k + 1) (by omega) q2 (by omega)) hl
theorem CvH_z5 {S : SS} {zI zL : ZM} {h : Nat} {n : Int} {I J V : Int → Int} {s : CS} (hC : CvT S zI zL h n I J V s) : CvT S (zput zI h 5 1) zL h n I J V s := by
  unfold CvT CvH FH PsH at *
  rw [show zput zI h 5 1 h 4 = zI h 4 from zput_off (by decide), zput_row (show h + 1 ≠ h by omega), zput_row (show h + 2 ≠ h by omega), zput_row (show h + 3 ≠ h by omega), zput_row (show h + 4 ≠ h by omega), zput_row (show h + 6 ≠ h by omega), zput_row (show h + 11 ≠ h by omega), zput_row (show h + 12 ≠ h by omega), zput_row (show h + 13 ≠ h by omega), zput_row (show h + 14 ≠ h by omega)]
  exact hC
set_option maxHeartbeats 4000000 in
theorem w_draw {X : PX} {d : Nat} {S : SS} {zI zL : ZM} {Q : PQ} {h : Nat} {n : Int} {I J V : Int → Int} (hcv : isCurve S h) (hT : FH zI h n I J V) (hR : FR n I J V) (hS : FS n I J) (hmost : zI (h + 6) 4 = 75) (hQ : ∀ z z2, frI h z zI → frD h z2 zL → z (h + 6) 4 = 75 → CvT S (zput z h 5 1) z2 h n I J V (drwS n I J V) → Q none S (zput z h 5 1) z2) : wpM X (d + 5) fCurve_draw [pR (h + 4)] S zI zL Q := by
  have hcv0 := hcv
  obtain ⟨hobc, hform, hpt, hpts, ⟨hr11, hr12, hr13, hr14⟩, ⟨c0, c1, c2, c3⟩, c4, c5, c6, c7⟩ := hcv
  have hob6 := hpts.1
  have hR0 := hR
  have hT0 := hT
  obtain ⟨hob, ⟨hr1, hr2, hr3⟩, hf1, hf2, hf3⟩ := hform
  obtain ⟨hn0, hn40, hrg⟩ := hR
  have outer : ∀ a : Int, a ≤ n → 0 ≤ a → ∀ (z z2 : ZM) (s : CS), frI h z zI → frD h z2 zL → z (h + 6) 4 = 75 → CvT S z z2 h n I J V s → ∀ y : Option PV, drwI n I J V (n - a).toNat a s = drwS n I J V → Run X (d + 4) c_Curve_draw 9 [some (pR (h + 4)), some (pI a), y] [] S z z2 0 0 Q := by
    refine loop_up _ n (fun a hka ih h0 z z2 s hz hz2 h4 hC y hs => ?_)
    have e4 : z h 4 = n := hC.2.1.1
    have inner : ∀ b : Int, b ≤ n → a + 1 ≤ b → ∀ (z z2 : ZM) (s : CS), frI h z zI → frD h z2 zL → z (h + 6) 4 = 75 → CvT S z z2 h n I J V s → drwI n I J V (n - (a + 1)).toNat (a + 1) (drwJ n I J V a (n - b).toNat b s) = drwS n I J V → a < n → Run X (d + 4) c_Curve_draw 18 [some (pR (h + 4)), some (pI a), some (pI b)] [] S z z2 0 0 Q := by
      refine loop_from _ n (a + 1) (fun b hkb ihb h0b z z2 s hz hz2 h4 hC hs han => ?_)
      have e4 : z h 4 = n := hC.2.1.1
      have hTz : FH z h n I J V := hC.2.1
      have e8 : z (h + 4) 8 = cNE s := hC.2.2.2.1.1
      have hne := hC.2.2.2.1.2.1
      have nx : b < n → ∀ (z z2 : ZM), frI h z zI → frD h z2 zL → z (h + 6) 4 = 75 → CvT S z z2 h n I J V (drwE n I J V s a b) → Run X (d + 4) c_Curve_draw 36 [some (pR (h + 4)), some (pI a), some (pI b)] [] S z z2 0 0 Q := by
        intro hbn z z2 hz hz2 h4 hC
        rw [drwJ_s hbn] at hs
        refine r_iinc rfl rfl ?_
        refine r_goto rfl ?_
        exact ihb hbn (by omega) z z2 _ hz hz2 h4 hC hs han
      refine r_iload_n rfl rfl ?_
      refine r_aload_n rfl rfl ?_
      refine r_getR rfl (by assumption) (by assumption) ?_
      refine r_getI rfl (by assumption) ?_
      rw [e4]
      refine r_icmp_ge rfl (by unfold inI; omega) (by unfold inI; omega) (fun h22 => ?_) (fun h22 => ?_)
      · skip
        rw [drwJ_e (by omega)] at hs
        refine r_iinc rfl rfl ?_
        refine r_goto rfl ?_
        exact ih han (by omega) z z2 s hz hz2 h4 hC _ hs
      · skip
        refine r_aload_n rfl rfl ?_
        refine r_getI rfl (by assumption) ?_
        rw [e8]
        refine r_bipush rfl ?_
        refine r_icmp_ge rfl (by unfold inI; omega) (by unfold inI; omega) (fun h26 => ?_) (fun h26 => ?_)
        · skip
          exact nx (by omega) z z2 hz hz2 h4 (by unfold drwE; rw [if_neg (by omega)]; exact hC)
        · skip
          refine r_aload_n rfl rfl ?_
          refine r_iload_n rfl rfl ?_
          refine r_iload_n rfl rfl ?_
          have hbn : b < n := by omega
          have hlt := hS a b (by omega) (by omega) hbn
          have hab : I b ≠ I a ∨ J b ≠ J a := by unfold lexlt at hlt; omega
          refine r_cV3 rfl hobc (Nat.le_of_ble_eq_true rfl) rfl rfl (w_findStretch (d := d + 2) hcv0 hTz hR0 (a := a) (b := b) ⟨by omega, han⟩ ⟨by omega, hbn⟩ (fun hno z3 f3 => by
            refine r_if_eq rfl (by unfold inI; omega) (fun _ => ?_) (fun q => absurd rfl q)
            exact nx hbn z z3 hz (frD_t hz2 (fun c hc => f3 c (by omega))) h4 (by unfold drwE; rw [if_pos (by omega), hno]; exact CvT_cell hC f3)) (fun l g hsome z3 f3 hBH => ?_))
          refine r_if_eq rfl (by unfold inI; omega) (fun h31 => ?_) (fun h31 => ?_)
          · skip
            exact absurd h31 (by decide)
          · skip
            refine r_aload_n rfl rfl ?_
            refine r_iload_n rfl rfl ?_
            refine r_iload_n rfl rfl ?_
            refine r_cV3 rfl hobc (Nat.le_of_ble_eq_true rfl) rfl rfl (w_addEdge (d := d) (CvT_cell hC f3) (a := a) (b := b) (l := l) (g := g) ⟨by omega, han⟩ ⟨by omega, hbn⟩ hab (by omega) hBH h4 (fun z4 z5 f4 f5 f6 hC2 => ?_))
            exact nx hbn z4 z5 (frI_t hz f4) (frD_t hz2 (frD_t (fun c hc => f3 c (by omega)) (fun c hc => f5 c (by omega)))) f6 (by unfold drwE; rw [if_pos (by omega), hsome]; exact hC2)
    refine r_iload_n rfl rfl ?_
    refine r_aload_n rfl rfl ?_
    refine r_getR rfl (by assumption) (by assumption) ?_
    refine r_getI rfl (by assumption) ?_
    rw [e4]
    refine r_icmp_ge rfl (by unfold inI; omega) (by unfold inI; omega) (fun h13 => ?_) (fun h13 => ?_)
    · skip
      refine r_aload_n rfl rfl ?_
      refine r_getR rfl (by assumption) (by assumption) ?_
      refine r_iconst rfl ?_
      refine r_putZ rfl (by assumption) (by first | exact Or.inl rfl | exact Or.inr rfl) ?_
      refine r_ret rfl ?_
      rw [drwI_e (by omega)] at hs; exact hQ z z2 hz hz2 h4 (by rw [← hs]; exact CvH_z5 hC)
    · skip
      refine r_iload_n rfl rfl ?_
      refine r_iconst rfl ?_
      refine r_iadd rfl ?_
      refine r_istore_n rfl (Nat.le_of_ble_eq_true rfl) ?_
      rw [drwI_s (by omega)] at hs
      exact inner (a + 1) (by omega) (Int.le_refl _) z z2 s hz hz2 h4 hC hs (by omega)
  refine wp_in (C := c_Curve_draw) (ls := [some (pR (h + 4)), none, none]) rfl rfl rfl rfl rfl ?_
  refine r_aload_n rfl rfl ?_
  refine r_iconst rfl ?_
  refine r_putI rfl (by assumption) ?_
  refine r_aload_n rfl rfl ?_
  refine r_getR rfl (by assumption) (by assumption) ?_
  refine r_iconst rfl ?_
  refine r_putI rfl (by assumption) ?_
  refine r_iconst rfl ?_
  refine r_istore_n rfl (Nat.le_of_ble_eq_true rfl) ?_
  refine outer 0 hn0 (Int.le_refl _) _ zL c00 (fun c k0 k1 k2 k3 k4 k5 => by rw [zput_row k1, zput_row k0]) (fun c hc => rfl) ?_ ?_ none (by rw [Int.sub_zero]; rfl)
  · rw [zput_off (by decide), zput_row (by omega)]; exact hmost
  · refine ⟨hcv0, FH_fr hT0 (fun c k0 k1 => by rw [zput_row (by omega), zput_row (by omega)]), hR0, ⟨by rw [zput_row (by omega)]; exact zput_at, ⟨Int.le_refl _, by decide⟩, fun e p0 p1 => absurd p1 (by show ¬ e < 0; omega)⟩, ⟨zput_at, fun t p0 p1 => absurd p1 (by show ¬ t < 0; omega)⟩, ⟨Int.le_refl _, fun t p0 p1 => absurd p1 (by show ¬ t < 0; omega)⟩, by decide⟩
