/-! THE REFERENCE: forms made, dropped -/
def addFA (a : FA) (k : Int) (T : FV) : FA := (a.1 + 1, updF (gK a) a.1 k, updF (gN a) a.1 T.1, fun f => if f = a.1 then T.2.1 else gI a f, fun f => if f = a.1 then T.2.2.1 else gJ a f, fun f => if f = a.1 then T.2.2.2 else gV a f)
def dropFA (a : FA) : FA := (a.1 - 1, a.2)
theorem FOK_add {a : FA} {k : Int} {T : FV} (h : FOK a) (hn : a.1 < 10) (hR : FRv T) (hS : FSv T) (hk : 0 ≤ k ∧ k ≤ 3) (h12 : k = 0 → T.1 ≤ 12) : FOK (addFA a k T) := by
  refine ⟨⟨by show 0 ≤ a.1 + 1; have := h.1; omega, by show a.1 + 1 ≤ 10; omega⟩, fun f f0 f1 => ?_⟩
  have f1 : f < a.1 + 1 := f1
  show FR (updF (gN a) a.1 T.1 f) (if f = a.1 then T.2.1 else gI a f) (if f = a.1 then T.2.2.1 else gJ a f) (if f = a.1 then T.2.2.2 else gV a f) ∧ FS (updF (gN a) a.1 T.1 f) (if f = a.1 then T.2.1 else gI a f) (if f = a.1 then T.2.2.1 else gJ a f) ∧ (0 ≤ updF (gK a) a.1 k f ∧ updF (gK a) a.1 k f ≤ 3) ∧ (updF (gK a) a.1 k f = 0 → updF (gN a) a.1 T.1 f ≤ 12)
  unfold updF
  by_cases e : f = a.1
  · rw [if_pos e, if_pos e, if_pos e, if_pos e, if_pos e]; exact ⟨hR, hS, hk, h12⟩
  · rw [if_neg e, if_neg e, if_neg e, if_neg e, if_neg e]; exact h.2 f f0 (by omega)
theorem FOK_drop {a : FA} (h : FOK a) (hn : a.1 ≠ 0) : FOK (dropFA a) := ⟨by have := h.1; exact ⟨by show 0 ≤ a.1 - 1; omega, by show a.1 - 1 ≤ 10; omega⟩, fun f f0 f1 => h.2 f f0 (by have : f < a.1 - 1 := f1; omega)⟩
theorem MF_drop {z z' : ZM} {a : FA} (h : MF z a) (h0 : z' 184 0 = a.1 - 1) (hz : ∀ c, 185 ≤ c → c ≤ 189 → z' c = z c) : MF z' (dropFA a) := by
  refine ⟨h0, fun f f0 f1 => ?_⟩
  have f1 : f < a.1 - 1 := f1
  obtain ⟨a1, a2⟩ := h.2 f f0 (by omega)
  exact ⟨FM_fr a1 (fun c c0 c1 => hz c (by omega) (by omega)), by rw [hz 185 (by decide) (by decide)]; exact a2⟩
theorem MF_add {z z' : ZM} {a : FA} {k : Int} {T : FV} (h : MF z a) (hk : FOK a) (hz : frG a.1 z' z) (h0 : z' 184 0 = a.1 + 1) (h1 : z' 185 a.1 = k) (hT : FMv z' a.1 T) : MF z' (addFA a k T) := by
  refine ⟨h0, fun f f0 f1 => ?_⟩
  have f1 : f < a.1 + 1 := f1
  show FM z' f (updF (gN a) a.1 T.1 f) (if f = a.1 then T.2.1 else gI a f) (if f = a.1 then T.2.2.1 else gJ a f) (if f = a.1 then T.2.2.2 else gV a f) ∧ z' 185 f = updF (gK a) a.1 k f
  unfold updF
  by_cases e : f = a.1
  · rw [if_pos e, if_pos e, if_pos e, if_pos e, if_pos e, e]; exact ⟨hT, h1⟩
  · rw [if_neg e, if_neg e, if_neg e, if_neg e, if_neg e]
    obtain ⟨a1, a2⟩ := h.2 f f0 (by omega)
    exact ⟨FM_frG a1 (hk.2 f f0 (by omega)).1.2.1 e hz, by rw [hz.2.2.1 f e]; exact a2⟩
/-- what calls that make forms may change -/
def frX (z' z : ZM) : Prop := (∀ c, (c < 184 ∨ 193 < c) → z' c = z c) ∧ ∀ k, k ≠ 0 → k ≠ 10 → z' 184 k = z 184 k
theorem frX_N {z' z : ZM} (h : frN z' z) : frX z' z := ⟨fun c a => h.1 c (by omega) (by omega) (by omega) (by omega) (by omega), fun k _ a => h.2 k a⟩
theorem frX_G {z z2 z3 : ZM} {f : Int} (h1 : frX z2 z) (h2 : frG f z3 z2) : frX z3 z := ⟨fun c a => (h2.1 c (by omega) (by omega) (by omega) (by omega) (by omega) (by omega)).trans (h1.1 c a), fun k a b => (h2.2.1 k a).trans (h1.2 k a b)⟩
theorem frX_r (z : ZM) : frX z z := ⟨fun _ _ => rfl, fun _ _ _ => rfl⟩
theorem frX_t {z z2 z3 : ZM} (h1 : frX z2 z) (h2 : frX z3 z2) : frX z3 z := ⟨fun c a => (h2.1 c a).trans (h1.1 c a), fun k a b => (h2.2 k a b).trans (h1.2 k a b)⟩
theorem MF_N {z z' : ZM} {a : FA} (h : MF z a) (hz : frN z' z) : MF z' a := MF_fr h (hz.2 0 (by decide)) (fun c c0 c1 => hz.1 c (by omega) (by omega) (by omega) (by omega) (by omega))
theorem DR_l {n : Int} {I J V : Int → Int} (hR : FR n I J V) : DR (loadG n I J V) 200 := DR_load _ _ _ (fun p v h => by cases h) (fun t t0 t1 => (hR.2.2 t t0 (by have := hR.1; omega)).2.2.2.2)
theorem y_form {X : PX} {d : Nat} {S : SS} {zI zL : ZM} {Q : PQ} (hS : Sk S) {a : FA} (hA : MF zI a) (hk : FOK a) (hQ0 : a.1 = 10 → Q (some (pI (-4))) S zI zL) (hQ1 : a.1 < 10 → ∀ z, frX z zI → MF z (addFA a 0 F0V) → Q (some (pI a.1)) S z zL) : wpM X (d + 1) fM_form [pR 184] S zI zL Q := by
  have hk0 := hk
  have hX := MF_x hA hk
  have hF0 := hA.1
  obtain ⟨kb, hkf⟩ := hk
  have hget : ∀ f, 0 ≤ f → f < zI 184 0 → (FM zI f (gN a f) (gI a f) (gJ a f) (gV a f) ∧ zI 185 f = gK a f) ∧ FR (gN a f) (gI a f) (gJ a f) (gV a f) ∧ FS (gN a f) (gI a f) (gJ a f) ∧ (0 ≤ gK a f ∧ gK a f ≤ 3) ∧ (gK a f = 0 → gN a f ≤ 12) := fun f f0 f1 => ⟨hA.2 f f0 (by omega), hkf f f0 (by omega)⟩
  refine wp_in (C := c_M_form) (ls := [some (pR 184)]) rfl rfl rfl rfl rfl ?_
  refine r_aload_n rfl rfl ?_
  refine r_getI rfl (so184 hS) ?_
  rw [hF0]
  refine r_bipush rfl ?_
  refine r_icmp_ne rfl (by unfold inI; omega) (by unfold inI; omega) (fun h3 => ?_) (fun h3 => ?_)
  · skip
    refine r_aload_n rfl rfl ?_
    refine r_getR rfl (so184 hS) (sr184_1 hS) ?_
    refine r_aload_n rfl rfl ?_
    refine r_getI rfl (so184 hS) ?_
    rw [hF0]
    refine r_iconst rfl ?_
    refine r_iast rfl (sw185 hS) (by omega) (by omega) ?_
    refine r_aload_n rfl rfl ?_
    refine r_getR rfl (so184 hS) (sr184_2 hS) ?_
    refine r_aload_n rfl rfl ?_
    refine r_getI rfl (so184 hS) ?_
    rw [zput_row (show (184 : Nat) ≠ 185 by decide), hF0]
    refine r_iconst rfl ?_
    refine r_iast rfl (sw186 hS) (by omega) (by omega) ?_
    refine r_aload_n rfl rfl ?_
    refine r_dupR rfl ?_
    refine r_getI rfl (so184 hS) ?_
    rw [zput_row (show (184 : Nat) ≠ 186 by decide), zput_row (show (184 : Nat) ≠ 185 by decide), hF0]
    refine r_iconst rfl ?_
    refine r_iadd rfl ?_
    refine r_putI rfl (so184 hS) ?_
    refine r_aload_n rfl rfl ?_
    refine r_getI rfl (so184 hS) ?_
    rw [zput_at]
    refine r_iconst rfl ?_
    refine r_isub rfl ?_
    refine r_iret rfl ?_
    rw [show a.1 + 1 - 1 = a.1 by omega]
    have hg : frG a.1 (zput (zput (zput zI 185 a.1 0) 186 a.1 0) 184 0 (a.1 + 1)) zI := ⟨fun c c0 c1 c2 c3 c4 c5 => by rw [zput_row c0, zput_row c2, zput_row c1], fun k hk => by rw [zput_off hk, zput_row (by decide), zput_row (by decide)], fun k hk => by rw [zput_row (by decide), zput_row (by decide), zput_off hk], fun k hk => by rw [zput_row (by decide), zput_off hk, zput_row (by decide)], fun k hk => by rw [zput_row (by decide), zput_row (by decide), zput_row (by decide), zput_row (by decide), zput_row (by decide), zput_row (by decide), zput_row (by decide), zput_row (by decide), zput_row (by decide)]; exact ⟨rfl, rfl, rfl⟩⟩
    exact hQ1 (by omega) _ (frX_G (frX_r zI) hg) (MF_add hA hk0 hg zput_at (by rw [zput_row (by decide), zput_row (by decide), zput_at]) ⟨by rw [zput_row (by decide), zput_at]; rfl, fun t t0 t1 => absurd t1 (by show ¬ t < 0; omega)⟩)
  · skip
    refine r_bipush rfl ?_
    refine r_iret rfl ?_
    exact hQ0 (by omega)
theorem y_drop {X : PX} {d : Nat} {S : SS} {zI zL : ZM} {Q : PQ} (hS : Sk S) {a : FA} (hA : MF zI a) (hk : FOK a) (hQ0 : a.1 = 0 → Q (some (pI (-3))) S zI zL) (hQ1 : a.1 ≠ 0 → ∀ z, frX z zI → MF z (dropFA a) → Q (some (pI (a.1 - 1))) S z zL) : wpM X (d + 1) fM_drop [pR 184] S zI zL Q := by
  have hX := MF_x hA hk
  have hF0 := hA.1
  obtain ⟨kb, hkf⟩ := hk
  have hget : ∀ f, 0 ≤ f → f < zI 184 0 → (FM zI f (gN a f) (gI a f) (gJ a f) (gV a f) ∧ zI 185 f = gK a f) ∧ FR (gN a f) (gI a f) (gJ a f) (gV a f) ∧ FS (gN a f) (gI a f) (gJ a f) ∧ (0 ≤ gK a f ∧ gK a f ≤ 3) ∧ (gK a f = 0 → gN a f ≤ 12) := fun f f0 f1 => ⟨hA.2 f f0 (by omega), hkf f f0 (by omega)⟩
  refine wp_in (C := c_M_drop) (ls := [some (pR 184)]) rfl rfl rfl rfl rfl ?_
  refine r_aload_n rfl rfl ?_
  refine r_getI rfl (so184 hS) ?_
  rw [hF0]
  refine r_if_ne rfl (by unfold inI; omega) (fun h2 => ?_) (fun h2 => ?_)
  · skip
    refine r_aload_n rfl rfl ?_
    refine r_dupR rfl ?_
    refine r_getI rfl (so184 hS) ?_
    rw [hF0]
    refine r_iconst rfl ?_
    refine r_isub rfl ?_
    refine r_putI rfl (so184 hS) ?_
    refine r_aload_n rfl rfl ?_
    refine r_getI rfl (so184 hS) ?_
    rw [zput_at]
    refine r_iret rfl ?_
    exact hQ1 h2 _ ⟨fun c c0 => zput_row (by omega), fun k k0 _ => zput_off k0⟩ (MF_drop hA zput_at (fun c c0 c1 => zput_row (by omega)))
  · skip
    refine r_bipush rfl ?_
    refine r_iret rfl ?_
    exact hQ0 h2
def sumOf (a : FA) (f g : Int) : Int → Option Int := sumG (loadG (gN a f) (gI a f) (gJ a f) (gV a f)) (gN a g) (gI a g) (gJ a g) (gV a g)
def sumOK (a : FA) (f g : Int) : Prop := sumB (loadG (gN a f) (gI a f) (gJ a f) (gV a f)) (gN a g) (gI a g) (gJ a g) = false ∧ a.1 < 10 ∧ fitG (sumOf a f g) = true
set_option maxHeartbeats 1000000 in
theorem y_sum {X : PX} {d : Nat} {S : SS} {zI zL : ZM} {Q : PQ} (hS : Sk S) {a : FA} (hA : MF zI a) (hk : FOK a) {f g : Int} (hf : inI f) (hg : inI g) (hQ0 : ¬ ((0 ≤ f ∧ f < a.1) ∧ (0 ≤ g ∧ g < a.1)) → Q (some (pI (-2))) S zI zL) (hQ1 : (0 ≤ f ∧ f < a.1) → (0 ≤ g ∧ g < a.1) → ¬ sumOK a f g → ∀ z, frX z zI → MF z a → Q (some (pI (-4))) S z zL) (hQ2 : (0 ≤ f ∧ f < a.1) → (0 ≤ g ∧ g < a.1) → sumOK a f g → ∀ z, frX z zI → MF z (addFA a 1 (pourV (sumOf a f g))) → FOK (addFA a 1 (pourV (sumOf a f g))) → Q (some (pI a.1)) S z zL) : wpM X (d + 3) fM_sum [pR 184, pI f, pI g] S zI zL Q := by
  have hk0 := hk
  have hX := MF_x hA hk
  have hF0 := hA.1
  obtain ⟨kb, hkf⟩ := hk
  have hget : ∀ f, 0 ≤ f → f < zI 184 0 → (FM zI f (gN a f) (gI a f) (gJ a f) (gV a f) ∧ zI 185 f = gK a f) ∧ FR (gN a f) (gI a f) (gJ a f) (gV a f) ∧ FS (gN a f) (gI a f) (gJ a f) ∧ (0 ≤ gK a f ∧ gK a f ≤ 3) ∧ (gK a f = 0 → gN a f ≤ 12) := fun f f0 f1 => ⟨hA.2 f f0 (by omega), hkf f f0 (by omega)⟩
  refine wp_in (C := c_M_sum) (ls := [some (pR 184), some (pI f), some (pI g)]) rfl rfl rfl rfl rfl ?_
  refine r_aload_n rfl rfl ?_
  refine r_iload_n rfl rfl ?_
  refine r_cV2 rfl (so184 hS) (Nat.le_of_ble_eq_true rfl) rfl rfl (x_is hS hf hX (fun p q => ?_) (fun p0 => ?_))
  · skip
    refine r_if_eq1 rfl ?_
    refine r_aload_n rfl rfl ?_
    refine r_iload_n rfl rfl ?_
    refine r_cV2 rfl (so184 hS) (Nat.le_of_ble_eq_true rfl) rfl rfl (x_is hS hg hX (fun p2 q2 => ?_) (fun p0 => ?_))
    · skip
      refine r_if_ne1 rfl ?_
      obtain ⟨⟨hT, -⟩, hR, hS2, -⟩ := hget f p q
      obtain ⟨⟨hT2, -⟩, hR2, hS22, -⟩ := hget g p2 q2
      have ef : 0 ≤ f ∧ f < a.1 := ⟨p, by omega⟩
      have eg : 0 ≤ g ∧ g < a.1 := ⟨p2, by omega⟩
      refine r_aload_n rfl rfl ?_
      refine r_iload_n rfl rfl ?_
      refine r_cV2 rfl (so184 hS) (Nat.le_of_ble_eq_true rfl) rfl rfl (x_spread (d := d + 1) hS (by omega) hT hR hS2 (fun z1 f1 hN1 hb1 => ?_))
      refine r_aload_n rfl rfl ?_
      refine r_iload_n rfl rfl ?_
      refine r_cV2 rfl (so184 hS) (Nat.le_of_ble_eq_true rfl) rfl rfl (x_addForm (d := d + 1) (b0 := false) hS (by omega) (FM_fr hT2 (fun c c0 c1 => f1.1 c (by omega) (by omega) (by omega) (by omega) (by omega))) hR2 hN1 hb1 (DR_l hR) (by omega) (fun z2 f2 hN2 hb2 hB2 => ?_))
      refine r_aload_n rfl rfl ?_
      refine r_iconst rfl ?_
      have hF2 : z2 184 0 = a.1 := by rw [f2.2 0 (by decide), f1.2 0 (by decide)]; exact hF0
      have f12 := frN_t f1 f2
      refine r_cV2 rfl (so184 hS) (Nat.le_of_ble_eq_true rfl) rfl rfl (x_gather hS (by unfold xF; rw [hF2, ← hF0]; exact hX) hN2 hb2 hB2 (by omega) (fun hno => ?_) (fun k1 k2 k3 z3 f3 e0 e1 hT3 hR3 hS3 => ?_))
      · refine r_iret rfl ?_
        exact hQ1 ef eg (fun q => hno ⟨by rw [Bool.false_or]; exact q.1, by rw [hF2]; exact q.2.1, q.2.2⟩) z2 (frX_N f12) (MF_N hA f12)
      · refine r_iret rfl ?_
        rw [hF2] at k2 f3 e0 e1 hT3 ⊢
        have hlt : a.1 < 10 := k2
        exact hQ2 ef eg ⟨by rw [Bool.false_or] at k1; exact k1, hlt, k3⟩ z3 (frX_G (frX_N f12) f3) (MF_add (MF_N hA f12) hk0 f3 e0 e1 hT3) (FOK_add hk0 hlt hR3 hS3 (by decide) (fun q => absurd q (by decide)))
    · skip
      refine r_if_ne0 rfl ?_
      refine r_bipush rfl ?_
      refine r_iret rfl ?_
      exact hQ0 (fun k => p0 ⟨k.2.1, by omega⟩)
  · skip
    refine r_if_eq0 rfl ?_
    refine r_bipush rfl ?_
    refine r_iret rfl ?_
    exact hQ0 (fun k => p0 ⟨k.1.1, by omega⟩)
/-- a form summed up: m times more -/
def pwG (n : Int) (I J V : Int → Int) : Nat → (Int → Option Int) → (Int → Option Int)
  | 0, G => G
  | m + 1, G => pwG n I J V m (sumG G n I J V)
def pwB (n : Int) (I J V : Int → Int) : Nat → (Int → Option Int) → Bool
  | 0, _ => false
  | m + 1, G => sumB G n I J || pwB n I J V m (sumG G n I J V)
def powOf (a : FA) (f k : Int) : Int → Option Int := pwG (gN a f) (gI a f) (gJ a f) (gV a f) (k - 1).toNat (loadG (gN a f) (gI a f) (gJ a f) (gV a f))
def powOK (a : FA) (f k : Int) : Prop := pwB (gN a f) (gI a f) (gJ a f) (gV a f) (k - 1).toNat (loadG (gN a f) (gI a f) (gJ a f) (gV a f)) = false ∧ a.1 < 10 ∧ fitG (powOf a f k) = true
set_option maxHeartbeats 1000000 in
theorem y_power {X : PX} {d : Nat} {S : SS} {zI zL : ZM} {Q : PQ} (hS : Sk S) {a : FA} (hA : MF zI a) (hk : FOK a) {f k : Int} (hf : inI f) (hk2 : inI k) (hQ0 : ¬ ((0 ≤ f ∧ f < a.1) ∧ (1 ≤ k ∧ k ≤ 4)) → Q (some (pI (-2))) S zI zL) (hQ1 : (0 ≤ f ∧ f < a.1) → (1 ≤ k ∧ k ≤ 4) → ¬ powOK a f k → ∀ z, frX z zI → MF z a → Q (some (pI (-4))) S z zL) (hQ2 : (0 ≤ f ∧ f < a.1) → (1 ≤ k ∧ k ≤ 4) → powOK a f k → ∀ z, frX z zI → MF z (addFA a 2 (pourV (powOf a f k))) → FOK (addFA a 2 (pourV (powOf a f k))) → Q (some (pI a.1)) S z zL) : wpM X (d + 3) fM_power [pR 184, pI f, pI k] S zI zL Q := by
  have hk0 := hk
  have hX := MF_x hA hk
  have hF0 := hA.1
  obtain ⟨kb, hkf⟩ := hk
  have hget : ∀ f, 0 ≤ f → f < zI 184 0 → (FM zI f (gN a f) (gI a f) (gJ a f) (gV a f) ∧ zI 185 f = gK a f) ∧ FR (gN a f) (gI a f) (gJ a f) (gV a f) ∧ FS (gN a f) (gI a f) (gJ a f) ∧ (0 ≤ gK a f ∧ gK a f ≤ 3) ∧ (gK a f = 0 → gN a f ≤ 12) := fun f f0 f1 => ⟨hA.2 f f0 (by omega), hkf f f0 (by omega)⟩
  have lp : (0 ≤ f ∧ f < a.1) → (1 ≤ k ∧ k ≤ 4) → ∀ s : Int, s ≤ k → 1 ≤ s → ∀ (z : ZM) (G : Int → Option Int) (b : Bool), frN z zI → NH z 192 190 G → z 184 10 = b1 b → DR G (200 * s) → pwG (gN a f) (gI a f) (gJ a f) (gV a f) (k - s).toNat G = powOf a f k → (b || pwB (gN a f) (gI a f) (gJ a f) (gV a f) (k - s).toNat G) = pwB (gN a f) (gI a f) (gJ a f) (gV a f) (k - 1).toNat (loadG (gN a f) (gI a f) (gJ a f) (gV a f)) → Run X (d + 2) c_M_power 17 [some (pR 184), some (pI f), some (pI k), some (pI s)] [] S z zL 0 0 Q := by
    intro ef ek
    obtain ⟨⟨hT, -⟩, hR, hS2, -⟩ := hget f ef.1 (by omega)
    refine loop_from _ k 1 (fun s hs ih s1 z G b hz hN hb hB hG hbb => ?_)
    have hF2 : z 184 0 = a.1 := by rw [hz.2 0 (by decide)]; exact hF0
    refine r_iload_n rfl rfl ?_
    refine r_iload_n rfl rfl ?_
    refine r_icmp_ge rfl (by unfold inI; omega) hk2 (fun h19 => ?_) (fun h19 => ?_)
    · skip
      refine r_aload_n rfl rfl ?_
      refine r_iconst rfl ?_
      have e1 : (k - s).toNat = 0 := by omega
      rw [e1] at hG hbb
      have hG : G = powOf a f k := hG
      have hbb : (b || false) = _ := hbb
      rw [Bool.or_false] at hbb
      refine r_cV2 rfl (so184 hS) (Nat.le_of_ble_eq_true rfl) rfl rfl (x_gather hS (by unfold xF; rw [hF2, ← hF0]; exact hX) hN hb hB (by omega) (fun hno => ?_) (fun k1 k2 k3 z3 f3 e0 e1 hT3 hR3 hS3 => ?_))
      · refine r_iret rfl ?_
        exact hQ1 ef ek (fun q => hno ⟨by rw [hbb]; exact q.1, by rw [hF2]; exact q.2.1, by rw [hG]; exact q.2.2⟩) z (frX_N hz) (MF_N hA hz)
      · refine r_iret rfl ?_
        rw [hF2] at k2 f3 e0 e1 hT3 ⊢
        rw [hG] at k3 hT3 hR3 hS3
        exact hQ2 ef ek ⟨by rw [← hbb]; exact k1, k2, k3⟩ z3 (frX_G (frX_N hz) f3) (MF_add (MF_N hA hz) hk0 f3 e0 e1 hT3) (FOK_add hk0 k2 hR3 hS3 (by decide) (fun q => absurd q (by decide)))
    · skip
      refine r_aload_n rfl rfl ?_
      refine r_iload_n rfl rfl ?_
      refine r_cV2 rfl (so184 hS) (Nat.le_of_ble_eq_true rfl) rfl rfl (x_addForm (d := d + 1) hS (by omega) (FM_fr hT (fun c c0 c1 => hz.1 c (by omega) (by omega) (by omega) (by omega) (by omega))) hR hN hb hB (by omega) (fun z2 f2 hN2 hb2 hB2 => ?_))
      refine r_iinc rfl rfl ?_
      refine r_goto rfl ?_
      have e1 : (k - s).toNat = (k - (s + 1)).toNat + 1 := by omega
      rw [e1] at hG hbb
      have hG : pwG (gN a f) (gI a f) (gJ a f) (gV a f) (k - (s + 1)).toNat (sumG G (gN a f) (gI a f) (gJ a f) (gV a f)) = powOf a f k := hG
      have hbb : (b || (sumB G (gN a f) (gI a f) (gJ a f) || pwB (gN a f) (gI a f) (gJ a f) (gV a f) (k - (s + 1)).toNat (sumG G (gN a f) (gI a f) (gJ a f) (gV a f)))) = _ := hbb
      exact ih (by omega) (by omega) z2 _ _ (frN_t hz f2) hN2 hb2 (DR_mono hB2 (by omega)) hG (by rw [Bool.or_assoc]; exact hbb)
  refine wp_in (C := c_M_power) (ls := [some (pR 184), some (pI f), some (pI k), none]) rfl rfl rfl rfl rfl ?_
  refine r_aload_n rfl rfl ?_
  refine r_iload_n rfl rfl ?_
  refine r_cV2 rfl (so184 hS) (Nat.le_of_ble_eq_true rfl) rfl rfl (x_is hS hf hX (fun p q => ?_) (fun p0 => ?_))
  · skip
    refine r_if_eq1 rfl ?_
    refine r_aload_n rfl rfl ?_
    refine r_iload_n rfl rfl ?_
    refine r_iconst rfl ?_
    refine r_iconst rfl ?_
    refine r_cV4 rfl (so184 hS) (Nat.le_of_ble_eq_true rfl) rfl rfl (x_in hS hk2 (by unfold inI; omega) (by unfold inI; omega) (fun p2 q2 => ?_) (fun p0 => ?_))
    · skip
      refine r_if_ne1 rfl ?_
      obtain ⟨⟨hT, -⟩, hR, hS2, -⟩ := hget f p q
      refine r_aload_n rfl rfl ?_
      refine r_iload_n rfl rfl ?_
      refine r_cV2 rfl (so184 hS) (Nat.le_of_ble_eq_true rfl) rfl rfl (x_spread (d := d + 1) hS (by omega) hT hR hS2 (fun z1 f1 hN1 hb1 => ?_))
      refine r_iconst rfl ?_
      refine r_istore_n rfl (Nat.le_of_ble_eq_true rfl) ?_
      exact lp ⟨p, by omega⟩ ⟨p2, q2⟩ 1 (by omega) (Int.le_refl _) z1 _ false f1 hN1 hb1 (DR_mono (DR_l hR) (by omega)) rfl (by rw [Bool.false_or])
    · skip
      refine r_if_ne0 rfl ?_
      refine r_bipush rfl ?_
      refine r_iret rfl ?_
      exact hQ0 (fun k => p0 k.2)
  · skip
    refine r_if_eq0 rfl ?_
    refine r_bipush rfl ?_
    refine r_iret rfl ?_
    exact hQ0 (fun k => p0 ⟨k.1.1, by omega⟩)
def movOf (a : FA) (f u v : Int) : Int → Option Int := shG (loadG (gN a f) (gI a f) (gJ a f) (gV a f)) u v 81
def movOK (a : FA) (f u v : Int) : Prop := a.1 < 10 ∧ fitG (movOf a f u v) = true
theorem DR_sh2 {G : Int → Option Int} {u v N B : Int} (h : DR G B) (hu : -10 ≤ u ∧ u ≤ 10) (hv : -10 ≤ v ∧ v ≤ 10) (hN : N ≤ 81) : DR (shG G u v N) (B + 200) := by
  intro p x hx
  unfold shG at hx
  split at hx
  · rename_i hp
    cases hG : G p with
    | none => rw [hG] at hx; cases hx
    | some y =>
      rw [hG] at hx
      have hx : y + (p / 9 * u + p % 9 * v) = x := Option.some.inj hx
      have b := h p y hG
      have m1 := mb (a := p / 9) (b := u) (A := 8) (B := 10) (by omega) (by omega) hu.1 hu.2
      have m2 := mb (a := p % 9) (b := v) (A := 8) (B := 10) (by omega) (by omega) hv.1 hv.2
      omega
  · have := h p x hx; omega
theorem sh2_0 (G : Int → Option Int) (u v : Int) : shG G u v 0 = G := by funext p; unfold shG; rw [if_neg (by omega)]
theorem NH_sh {z : ZM} {G : Int → Option Int} {u v p : Int} (hp : 0 ≤ p ∧ p < 81) (h : NH z 192 190 (shG G u v p)) : (G p = none → NH z 192 190 (shG G u v (p + 1))) ∧ ∀ y, G p = some y → z 192 p = 1 ∧ z 190 p = y ∧ NH (zput z 190 p (y + (p / 9 * u + p % 9 * v))) 192 190 (shG G u v (p + 1)) := by
  have hpp : shG G u v p p = G p := by unfold shG; rw [if_neg (by omega)]
  have hoff : ∀ k, k ≠ p → shG G u v (p + 1) k = shG G u v p k := fun k hk => by
    unfold shG
    by_cases e : 0 ≤ k ∧ k < p
    · rw [if_pos e, if_pos (by omega)]
    · rw [if_neg e, if_neg (by omega)]
  have hat : shG G u v (p + 1) p = (G p).map (fun x => x + (p / 9 * u + p % 9 * v)) := by unfold shG; rw [if_pos (by omega)]
  refine ⟨fun hn k k0 k1 => ?_, fun y hy => ?_⟩
  · by_cases e : k = p
    · subst e
      have := h k k0 k1
      rw [hpp] at this
      rw [hat, hn]
      exact ⟨fun _ => this.1 hn, fun v hv => by cases hv⟩
    · rw [hoff k e]; exact h k k0 k1
  · have := h p hp.1 hp.2
    rw [hpp] at this
    obtain ⟨q1, q2⟩ := this.2 y hy
    refine ⟨q1, q2, fun k k0 k1 => ?_⟩
    by_cases e : k = p
    · subst e
      rw [hat, hy, zput_row (show (192 : Nat) ≠ 190 by decide), zput_at]
      exact ⟨fun k => (by cases k), fun v hv => ⟨q1, Option.some.inj hv⟩⟩
    · rw [hoff k e, zput_row (show (192 : Nat) ≠ 190 by decide), zput_off e]; exact h k k0 k1
set_option maxHeartbeats 1000000 in
theorem y_move {X : PX} {d : Nat} {S : SS} {zI zL : ZM} {Q : PQ} (hS : Sk S) {a : FA} (hA : MF zI a) (hk : FOK a) {f u v : Int} (hf : inI f) (hu : inI u) (hv : inI v) (hQ0 : ¬ ((0 ≤ f ∧ f < a.1) ∧ (-10 ≤ u ∧ u ≤ 10) ∧ (-10 ≤ v ∧ v ≤ 10)) → Q (some (pI (-2))) S zI zL) (hQ1 : (0 ≤ f ∧ f < a.1) → (-10 ≤ u ∧ u ≤ 10) → (-10 ≤ v ∧ v ≤ 10) → ¬ movOK a f u v → ∀ z, frX z zI → MF z a → Q (some (pI (-4))) S z zL) (hQ2 : (0 ≤ f ∧ f < a.1) → (-10 ≤ u ∧ u ≤ 10) → (-10 ≤ v ∧ v ≤ 10) → movOK a f u v → ∀ z, frX z zI → MF z (addFA a 1 (pourV (movOf a f u v))) → FOK (addFA a 1 (pourV (movOf a f u v))) → Q (some (pI a.1)) S z zL) : wpM X (d + 3) fM_move [pR 184, pI f, pI u, pI v] S zI zL Q := by
  have hk0 := hk
  have hX := MF_x hA hk
  have hF0 := hA.1
  obtain ⟨kb, hkf⟩ := hk
  have hget : ∀ f, 0 ≤ f → f < zI 184 0 → (FM zI f (gN a f) (gI a f) (gJ a f) (gV a f) ∧ zI 185 f = gK a f) ∧ FR (gN a f) (gI a f) (gJ a f) (gV a f) ∧ FS (gN a f) (gI a f) (gJ a f) ∧ (0 ≤ gK a f ∧ gK a f ≤ 3) ∧ (gK a f = 0 → gN a f ≤ 12) := fun f f0 f1 => ⟨hA.2 f f0 (by omega), hkf f f0 (by omega)⟩
  have lp : (0 ≤ f ∧ f < a.1) → (-10 ≤ u ∧ u ≤ 10) → (-10 ≤ v ∧ v ≤ 10) → DR (loadG (gN a f) (gI a f) (gJ a f) (gV a f)) 200 → ∀ p : Int, p ≤ 81 → 0 ≤ p → ∀ (z : ZM), frN z zI → NH z 192 190 (shG (loadG (gN a f) (gI a f) (gJ a f) (gV a f)) u v p) → z 184 10 = 0 → Run X (d + 2) c_M_move 23 [some (pR 184), some (pI f), some (pI u), some (pI v), some (pI p)] [] S z zL 0 0 Q := by
    intro ef eu ev hD
    refine loop_up _ 81 (fun p hp ih p0 z hz hN hb => ?_)
    have hF2 : z 184 0 = a.1 := by rw [hz.2 0 (by decide)]; exact hF0
    refine r_iload rfl rfl ?_
    refine r_bipush rfl ?_
    refine r_icmp_ge rfl (by unfold inI; omega) (by unfold inI; omega) (fun h25 => ?_) (fun h25 => ?_)
    · skip
      refine r_aload_n rfl rfl ?_
      refine r_iconst rfl ?_
      rw [show p = 81 by omega] at hN
      refine r_cV2 rfl (so184 hS) (Nat.le_of_ble_eq_true rfl) rfl rfl (x_gather (b := false) hS (by unfold xF; rw [hF2, ← hF0]; exact hX) hN hb (DR_sh2 hD eu ev (Int.le_refl _)) (by omega) (fun hno => ?_) (fun k1 k2 k3 z3 f3 e0 e1 hT3 hR3 hS3 => ?_))
      · refine r_iret rfl ?_
        exact hQ1 ef eu ev (fun q => hno ⟨rfl, by rw [hF2]; exact q.1, q.2⟩) z (frX_N hz) (MF_N hA hz)
      · refine r_iret rfl ?_
        rw [hF2] at k2 f3 e0 e1 hT3 ⊢
        exact hQ2 ef eu ev ⟨k2, k3⟩ z3 (frX_G (frX_N hz) f3) (MF_add (MF_N hA hz) hk0 f3 e0 e1 hT3) (FOK_add hk0 k2 hR3 hS3 (by decide) (fun q => absurd q (by decide)))
    · skip
      have hsh := NH_sh ⟨p0, by omega⟩ hN
      cases hu1 : loadG (gN a f) (gI a f) (gJ a f) (gV a f) p with
      | none =>
        have e0 : z 192 p = 0 := (hN p p0 (by omega)).1 (by unfold shG; rw [if_neg (by omega)]; exact hu1)
        refine r_aload_n rfl rfl ?_
        refine r_getR rfl (so184 hS) (sr184_8 hS) ?_
        refine r_iload rfl rfl ?_
        refine r_bald rfl (sw192 hS) (by omega) (by omega) ?_
        rw [e0]
        refine r_if_eq rfl (by unfold inI; omega) (fun h30 => ?_) (fun h30 => ?_)
        · skip
          refine r_iinc rfl rfl ?_
          refine r_goto rfl ?_
          exact ih (by omega) (by omega) z hz (hsh.1 hu1) hb
        · skip
          exact absurd rfl h30
      | some y =>
        obtain ⟨e0, e1, e2⟩ := hsh.2 y hu1
        refine r_aload_n rfl rfl ?_
        refine r_getR rfl (so184 hS) (sr184_8 hS) ?_
        refine r_iload rfl rfl ?_
        refine r_bald rfl (sw192 hS) (by omega) (by omega) ?_
        rw [e0]
        refine r_if_eq rfl (by unfold inI; omega) (fun h30 => ?_) (fun h30 => ?_)
        · skip
          exact absurd h30 (by decide)
        · skip
          refine r_aload_n rfl rfl ?_
          refine r_getR rfl (so184 hS) (sr184_6 hS) ?_
          refine r_iload rfl rfl ?_
          refine r_dup2 rfl ?_
          refine r_iald rfl (sw190 hS) (by omega) (by omega) ?_
          rw [e1]
          refine r_iload rfl rfl ?_
          refine r_bipush rfl ?_
          refine r_idiv rfl (by unfold inI; omega) (by unfold inI; omega) (by omega) ?_
          rw [td9 p0]
          refine r_iload_n rfl rfl ?_
          refine r_imul rfl ?_
          refine r_iload rfl rfl ?_
          refine r_bipush rfl ?_
          refine r_irem rfl (by unfold inI; omega) (by unfold inI; omega) (by omega) ?_
          rw [tm9 p0]
          refine r_iload_n rfl rfl ?_
          refine r_imul rfl ?_
          refine r_iadd rfl ?_
          refine r_iadd rfl ?_
          refine r_iast rfl (sw190 hS) (by omega) (by omega) ?_
          refine r_iinc rfl rfl ?_
          refine r_goto rfl ?_
          exact ih (by omega) (by omega) _ (frN_p hz (by decide)) e2 (by rw [zput_row (by decide)]; exact hb)
  refine wp_in (C := c_M_move) (ls := [some (pR 184), some (pI f), some (pI u), some (pI v), none]) rfl rfl rfl rfl rfl ?_
  refine r_aload_n rfl rfl ?_
  refine r_iload_n rfl rfl ?_
  refine r_cV2 rfl (so184 hS) (Nat.le_of_ble_eq_true rfl) rfl rfl (x_is hS hf hX (fun p q => ?_) (fun p0 => ?_))
  · skip
    refine r_if_eq1 rfl ?_
    refine r_aload_n rfl rfl ?_
    refine r_iload_n rfl rfl ?_
    refine r_bipush rfl ?_
    refine r_bipush rfl ?_
    refine r_cV4 rfl (so184 hS) (Nat.le_of_ble_eq_true rfl) rfl rfl (x_in hS hu (by unfold inI; omega) (by unfold inI; omega) (fun p2 q2 => ?_) (fun p0 => ?_))
    · skip
      refine r_if_eq1 rfl ?_
      refine r_aload_n rfl rfl ?_
      refine r_iload_n rfl rfl ?_
      refine r_bipush rfl ?_
      refine r_bipush rfl ?_
      refine r_cV4 rfl (so184 hS) (Nat.le_of_ble_eq_true rfl) rfl rfl (x_in hS hv (by unfold inI; omega) (by unfold inI; omega) (fun p3 q3 => ?_) (fun p0 => ?_))
      · skip
        refine r_if_ne1 rfl ?_
        obtain ⟨⟨hT, -⟩, hR, hS2, -⟩ := hget f p q
        refine r_aload_n rfl rfl ?_
        refine r_iload_n rfl rfl ?_
        refine r_cV2 rfl (so184 hS) (Nat.le_of_ble_eq_true rfl) rfl rfl (x_spread (d := d + 1) hS (by omega) hT hR hS2 (fun z1 f1 hN1 hb1 => ?_))
        refine r_iconst rfl ?_
        refine r_istore rfl (Nat.le_of_ble_eq_true rfl) ?_
        exact lp ⟨p, by omega⟩ ⟨p2, q2⟩ ⟨p3, q3⟩ (DR_l hR) 0 (by decide) (Int.le_refl _) z1 f1 (by rw [sh2_0]; exact hN1) hb1
      · skip
        refine r_if_ne0 rfl ?_
        refine r_bipush rfl ?_
        refine r_iret rfl ?_
        exact hQ0 (fun k => p0 k.2.2)
    · skip
      refine r_if_eq0 rfl ?_
      refine r_bipush rfl ?_
      refine r_iret rfl ?_
      exact hQ0 (fun k => p0 k.2.1)
  · skip
    refine r_if_eq0 rfl ?_
    refine r_bipush rfl ?_
    refine r_iret rfl ?_
    exact hQ0 (fun k => p0 ⟨k.1.1, by omega⟩)
