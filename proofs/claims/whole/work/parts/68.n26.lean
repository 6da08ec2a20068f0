/-! THE REFERENCE: idle, same, meets, meet -/
def IDa (a : FA) (id : Int → Int → Int) : Prop := ∀ f, 0 ≤ f → f < a.1 → idOK (gN a f) (gI a f) (gJ a f) (gV a f) (id f)
def edA (a : FA) (f : Int) : List EE := edL (gN a f) (gI a f) (gJ a f) (gV a f)
def CPa (a : FA) : Prop := ∀ f, 0 ≤ f → f < a.1 → (edA a f).length ≤ 700
def sIdl (a : FA) (id : Int → Int → Int) (f i j : Int) : Int := if (0 ≤ f ∧ f < a.1) ∧ fdA a f i j ≠ -1 then id f (fdA a f i j) else -2
def wiA (a : FA) (id : Int → Int → Int) (f g : Int) : Int := wiS (gN a f) (gI a f) (gJ a f) (gV a f) (id f) (gN a g) (gI a g) (gJ a g) (gV a g) (id g)
def sSam (a : FA) (id : Int → Int → Int) (f g : Int) : Int := if ¬ ((0 ≤ f ∧ f < a.1) ∧ (0 ≤ g ∧ g < a.1)) then -2 else if wiA a id f g = 1 ∧ wiA a id g f = 1 then 1 else 0
theorem wiA_i (a : FA) (id : Int → Int → Int) (f g : Int) : wiA a id f g = 0 ∨ wiA a id f g = 1 := by unfold wiA wiS; split; exact Or.inr rfl; exact Or.inl rfl
def clA (a : FA) (f g : Int) : Int := clS (gN a f) (gI a f) (gJ a f) (gV a f) (gN a g) (gI a g) (gJ a g) (gV a g)
noncomputable def meA (a : FA) (f g : Int) : MTS := meetsM (gN a f) (gI a f) (gJ a f) (gV a f) (gN a g) (gI a g) (gJ a g) (gV a g) (edA a f) (edA a g)
noncomputable def weA (a : FA) (f g : Int) : Int := wellM (gI a f) (gJ a f) (gV a f) (gI a g) (gJ a g) (gV a g) (edA a f) (edA a g)
/-- MEETS are few -/
def M8a (a : FA) : Prop := ∀ f g, 0 ≤ f → f < a.1 → 0 ≤ g → g < a.1 → clA a f g = 0 → clA a g f = 0 → (meA a f g).1 ≤ 800
noncomputable def sMt (a : FA) (f g : Int) : Option MTS := if clA a f g = 0 ∧ clA a g f = 0 ∧ weA a f g ≠ 0 then some (meA a f g) else none
theorem wel_F (I J V I2 J2 V2 : Int → Int) (e : EE) : ∀ (L : List EE) (x : Int), (x = 0 ∨ x = 1) → (L.foldl (wqO I J V I2 J2 V2 e) x = 0 ∨ L.foldl (wqO I J V I2 J2 V2 e) x = 1)
  | [], _, h => h
  | o :: r, _, h => wel_F I J V I2 J2 V2 e r _ (wqO_i h)
theorem wel_G (I J V I2 J2 V2 : Int → Int) (Lb : List EE) : ∀ (L : List EE) (x : Int), (x = 0 ∨ x = 1) → (L.foldl (wqE I J V I2 J2 V2 Lb) x = 0 ∨ L.foldl (wqE I J V I2 J2 V2 Lb) x = 1)
  | [], _, h => h
  | e :: r, _, h => wel_G I J V I2 J2 V2 Lb r _ (wel_F I J V I2 J2 V2 e Lb _ h)
theorem weA_i (a : FA) (f g : Int) : weA a f g = 0 ∨ weA a f g = 1 := wel_G _ _ _ _ _ _ _ _ 1 (Or.inr rfl)
theorem clA_i (a : FA) (f g : Int) : clA a f g = 0 ∨ clA a f g = 1 := cls_b _ _ _ _ _ _ _ _
theorem y_idle {X : PX} {d : Nat} {S : SS} {zI zL : ZM} {Q : PQ} (hS : Sk S) {a : FA} (hA : MF zI a) (hk : FOK a) {id : Int → Int → Int} (hid : IDa a id) {f i j : Int} (hf : inI f) (hi : inI i) (hj : inI j) (hQ : Q (some (pI (sIdl a id f i j))) S zI zL) : wpM X (d + 4) fM_idle [pR 184, pI f, pI i, pI j] S zI zL Q := by
  have hX := MF_x hA hk
  have hF0 := hA.1
  obtain ⟨kb, hkf⟩ := hk
  have hget : ∀ f, 0 ≤ f → f < zI 184 0 → (FM zI f (gN a f) (gI a f) (gJ a f) (gV a f) ∧ zI 185 f = gK a f) ∧ FR (gN a f) (gI a f) (gJ a f) (gV a f) ∧ FS (gN a f) (gI a f) (gJ a f) ∧ (0 ≤ gK a f ∧ gK a f ≤ 3) ∧ (gK a f = 0 → gN a f ≤ 12) := fun f f0 f1 => ⟨hA.2 f f0 (by omega), hkf f f0 (by omega)⟩
  have rest : ∀ k, ((0 ≤ f ∧ f < a.1) ∧ k = fdA a f i j) ∨ (¬ (0 ≤ f ∧ f < a.1) ∧ k = -1) → Run X (d + 3) c_M_idle 11 [some (pR 184), some (pI f), some (pI i), some (pI j), none] [pI k] S zI zL 0 0 Q := by
    intro k hkk
    unfold sIdl at hQ
    have bk : -1 ≤ k ∧ k ≤ 40 := by
      rcases hkk with ⟨q1, q2⟩ | ⟨-, q⟩
      · obtain ⟨-, hR, -⟩ := hget f q1.1 (by omega)
        have h1 := fnd_in (gN a f) (gI a f) (gJ a f) i j hR.1
        have h2 := hR.2.1
        have q2 : k = fnd (gN a f) (gI a f) (gJ a f) i j := q2
        omega
      · omega
    refine r_istore rfl (Nat.le_of_ble_eq_true rfl) ?_
    refine r_iload rfl rfl ?_
    refine r_if_ge rfl (by unfold inI; omega) (fun h13 => ?_) (fun h13 => ?_)
    · skip
      obtain ⟨q1, q2⟩ : (0 ≤ f ∧ f < a.1) ∧ k = fdA a f i j := by
        rcases hkk with q | ⟨-, q⟩
        · exact q
        · omega
      obtain ⟨⟨hT, -⟩, hR, -⟩ := hget f q1.1 (by omega)
      have fi := fnd_in (gN a f) (gI a f) (gJ a f) i j hR.1
      have q2' : k = fnd (gN a f) (gI a f) (gJ a f) i j := q2
      rw [← q2'] at fi
      have hk1 : 0 ≤ k ∧ k < gN a f := by omega
      have idk := (hid f q1.1 q1.2 k hk1.1 hk1.2).1
      rw [← q2, if_pos ⟨q1, by omega⟩] at hQ
      refine r_aload_n rfl rfl ?_
      refine r_iload_n rfl rfl ?_
      refine r_iload rfl rfl ?_
      refine r_cV3 rfl (so184 hS) (Nat.le_of_ble_eq_true rfl) rfl rfl (x_isIdle hS (by omega) hT hR hk1 (hid f q1.1 q1.2) ?_)
      refine r_if_eq rfl (by unfold inI; omega) (fun h20 => ?_) (fun h20 => ?_)
      · skip
        refine r_iconst rfl ?_
        refine r_iret rfl ?_
        rw [h20] at hQ; exact hQ
      · skip
        refine r_iconst rfl ?_
        refine r_goto rfl ?_
        refine r_iret rfl ?_
        rw [show id f k = 1 by omega] at hQ; exact hQ
    · skip
      refine r_bipush rfl ?_
      refine r_goto rfl ?_
      refine r_iret rfl ?_
      rw [if_neg (fun q => by rcases hkk with ⟨-, q2⟩ | ⟨q1, -⟩; exact q.2 (by omega); exact q1 q.1)] at hQ; exact hQ
  refine wp_in (C := c_M_idle) (ls := [some (pR 184), some (pI f), some (pI i), some (pI j), none]) rfl rfl rfl rfl rfl ?_
  refine r_aload_n rfl rfl ?_
  refine r_iload_n rfl rfl ?_
  refine r_cV2 rfl (so184 hS) (Nat.le_of_ble_eq_true rfl) rfl rfl (x_is hS hf hX (fun p q => ?_) (fun p => ?_))
  · skip
    refine r_if_eq1 rfl ?_
    refine r_aload_n rfl rfl ?_
    refine r_iload_n rfl rfl ?_
    refine r_iload_n rfl rfl ?_
    refine r_iload_n rfl rfl ?_
    refine r_cV4 rfl (so184 hS) (Nat.le_of_ble_eq_true rfl) rfl rfl (x_termAt (d := d + 2) hS (by omega) (hget f p q).1.1 (hget f p q).2.1 hi hj ?_)
    refine r_goto rfl ?_
    exact rest _ (Or.inl ⟨by omega, rfl⟩)
  · skip
    refine r_if_eq0 rfl ?_
    refine r_iconst rfl ?_
    exact rest _ (Or.inr ⟨by omega, rfl⟩)
theorem y_same {X : PX} {d : Nat} {S : SS} {zI zL : ZM} {Q : PQ} (hS : Sk S) {a : FA} (hA : MF zI a) (hk : FOK a) {id : Int → Int → Int} (hid : IDa a id) {f g : Int} (hf : inI f) (hg : inI g) (hQ : Q (some (pI (sSam a id f g))) S zI zL) : wpM X (d + 5) fM_same [pR 184, pI f, pI g] S zI zL Q := by
  have hX := MF_x hA hk
  have hF0 := hA.1
  obtain ⟨kb, hkf⟩ := hk
  have hget : ∀ f, 0 ≤ f → f < zI 184 0 → (FM zI f (gN a f) (gI a f) (gJ a f) (gV a f) ∧ zI 185 f = gK a f) ∧ FR (gN a f) (gI a f) (gJ a f) (gV a f) ∧ FS (gN a f) (gI a f) (gJ a f) ∧ (0 ≤ gK a f ∧ gK a f ≤ 3) ∧ (gK a f = 0 → gN a f ≤ 12) := fun f f0 f1 => ⟨hA.2 f f0 (by omega), hkf f f0 (by omega)⟩
  have w1 := wiA_i a id f g
  have w2 := wiA_i a id g f
  unfold sSam at hQ
  refine wp_in (C := c_M_same) (ls := [some (pR 184), some (pI f), some (pI g)]) rfl rfl rfl rfl rfl ?_
  refine r_aload_n rfl rfl ?_
  refine r_iload_n rfl rfl ?_
  refine r_cV2 rfl (so184 hS) (Nat.le_of_ble_eq_true rfl) rfl rfl (x_is hS hf hX (fun p q => ?_) (fun p0 => ?_))
  · skip
    refine r_if_eq1 rfl ?_
    refine r_aload_n rfl rfl ?_
    refine r_iload_n rfl rfl ?_
    refine r_cV2 rfl (so184 hS) (Nat.le_of_ble_eq_true rfl) rfl rfl (x_is hS hg hX (fun p2 q2 => ?_) (fun p0 => ?_))
    · skip
      refine r_if_ne1 rfl ?_
      obtain ⟨⟨hT, -⟩, hR, hS2, -⟩ := hget f p q
      obtain ⟨⟨hT2, -⟩, hR2, hS22, -⟩ := hget g p2 q2
      have ef : 0 ≤ f ∧ f < a.1 := ⟨p, by omega⟩
      have eg : 0 ≤ g ∧ g < a.1 := ⟨p2, by omega⟩
      rw [if_neg (fun q => q ⟨ef, eg⟩)] at hQ
      refine r_aload_n rfl rfl ?_
      refine r_iload_n rfl rfl ?_
      refine r_iload_n rfl rfl ?_
      refine r_cV3 rfl (so184 hS) (Nat.le_of_ble_eq_true rfl) rfl rfl (x_isWithin hS (by omega) hT hR (by omega) hT2 hR2 (hid f ef.1 ef.2) (hid g eg.1 eg.2) ?_)
      rw [show wiS (gN a f) (gI a f) (gJ a f) (gV a f) (id f) (gN a g) (gI a g) (gJ a g) (gV a g) (id g) = wiA a id f g from rfl]
      refine r_if_eq rfl (by unfold inI; omega) (fun h14 => ?_) (fun h14 => ?_)
      · skip
        refine r_iconst rfl ?_
        refine r_iret rfl ?_
        rw [if_neg (by omega)] at hQ; exact hQ
      · skip
        refine r_aload_n rfl rfl ?_
        refine r_iload_n rfl rfl ?_
        refine r_iload_n rfl rfl ?_
        refine r_cV3 rfl (so184 hS) (Nat.le_of_ble_eq_true rfl) rfl rfl (x_isWithin hS (by omega) hT2 hR2 (by omega) hT hR (hid g eg.1 eg.2) (hid f ef.1 ef.2) ?_)
        rw [show wiS (gN a g) (gI a g) (gJ a g) (gV a g) (id g) (gN a f) (gI a f) (gJ a f) (gV a f) (id f) = wiA a id g f from rfl]
        refine r_if_eq rfl (by unfold inI; omega) (fun h19 => ?_) (fun h19 => ?_)
        · skip
          refine r_iconst rfl ?_
          refine r_iret rfl ?_
          rw [if_neg (by omega)] at hQ; exact hQ
        · skip
          refine r_iconst rfl ?_
          refine r_goto rfl ?_
          refine r_iret rfl ?_
          rw [if_pos (by omega)] at hQ; exact hQ
    · skip
      refine r_if_ne0 rfl ?_
      refine r_bipush rfl ?_
      refine r_iret rfl ?_
      rw [if_pos (fun k => p0 ⟨k.2.1, by omega⟩)] at hQ; exact hQ
  · skip
    refine r_if_eq0 rfl ?_
    refine r_bipush rfl ?_
    refine r_iret rfl ?_
    rw [if_pos (fun k => p0 ⟨k.1.1, by omega⟩)] at hQ; exact hQ
set_option maxHeartbeats 1000000 in
theorem y_meets {X : PX} {d : Nat} {S : SS} {zI zL : ZM} {Q : PQ} (hS : Sk S) {a : FA} (hA : MF zI a) (hk : FOK a) (hcp : CPa a) (h8 : M8a a) {f g : Int} (hf : inI f) (hg : inI g) (hQ0 : ¬ ((0 ≤ f ∧ f < a.1) ∧ (0 ≤ g ∧ g < a.1)) → Q (some (pI (-2))) S zI zL) (hQ1 : (0 ≤ f ∧ f < a.1) → (0 ≤ g ∧ g < a.1) → sMt a f g = none → ∀ z z2, frW z zI → frQL z2 zL → Q (some (pI (-3))) S z z2) (hQ2 : (0 ≤ f ∧ f < a.1) → (0 ≤ g ∧ g < a.1) → ∀ ms, sMt a f g = some ms → ∀ z z2, frW z zI → frQL z2 zL → Q (some (pI ms.1)) S z z2) : wpM X (d + 8) fM_meets [pR 184, pI f, pI g] S zI zL Q := by
  have hX := MF_x hA hk
  have hF0 := hA.1
  obtain ⟨kb, hkf⟩ := hk
  have hget : ∀ f, 0 ≤ f → f < zI 184 0 → (FM zI f (gN a f) (gI a f) (gJ a f) (gV a f) ∧ zI 185 f = gK a f) ∧ FR (gN a f) (gI a f) (gJ a f) (gV a f) ∧ FS (gN a f) (gI a f) (gJ a f) ∧ (0 ≤ gK a f ∧ gK a f ≤ 3) ∧ (gK a f = 0 → gN a f ≤ 12) := fun f f0 f1 => ⟨hA.2 f f0 (by omega), hkf f f0 (by omega)⟩
  have w1 := weA_i a f g
  refine wp_in (C := c_M_meets) (ls := [some (pR 184), some (pI f), some (pI g)]) rfl rfl rfl rfl rfl ?_
  refine r_aload_n rfl rfl ?_
  refine r_iload_n rfl rfl ?_
  refine r_cV2 rfl (so184 hS) (Nat.le_of_ble_eq_true rfl) rfl rfl (x_is hS hf hX (fun p q => ?_) (fun p0 => ?_))
  · skip
    refine r_if_eq1 rfl ?_
    refine r_aload_n rfl rfl ?_
    refine r_iload_n rfl rfl ?_
    refine r_cV2 rfl (so184 hS) (Nat.le_of_ble_eq_true rfl) rfl rfl (x_is hS hg hX (fun p2 q2 => ?_) (fun p0 => ?_))
    · skip
      refine r_if_ne1 rfl ?_
      obtain ⟨⟨hT, -⟩, hR, hS2, -⟩ := hget f p q
      obtain ⟨⟨hT2, -⟩, hR2, hS22, -⟩ := hget g p2 q2
      have ef : 0 ≤ f ∧ f < a.1 := ⟨p, by omega⟩
      have eg : 0 ≤ g ∧ g < a.1 := ⟨p2, by omega⟩
      
      refine r_aload_n rfl rfl ?_
      refine r_iload_n rfl rfl ?_
      refine r_iload_n rfl rfl ?_
      refine r_cV3 rfl (so184 hS) (Nat.le_of_ble_eq_true rfl) rfl rfl (x_findMeets hS (by omega) hT hR hS2 (by omega) hT2 hR2 hS22 (hcp f ef.1 ef.2) (hcp g eg.1 eg.2) (h8 f g ef.1 ef.2 eg.1 eg.2) (fun c z3 z4 f3 f4 => ?_) (fun c1 c2 z3 z4 f3 f4 hM hMR => ?_))
      · refine r_if_eq0 rfl ?_
        refine r_bipush rfl ?_
        refine r_iret rfl ?_
        exact hQ1 ef eg (by unfold sMt; rw [if_neg (fun q => by have k1 := q.1; have k2 := q.2.1; unfold clA at k1 k2; omega)]) z3 z4 f3 f4
      · refine r_if_eq rfl (by show inI (weA a f g); unfold inI; omega) (fun q => ?_) (fun q => ?_)
        · refine r_bipush rfl ?_
          refine r_iret rfl ?_
          exact hQ1 ef eg (by unfold sMt; rw [if_neg (fun k => k.2.2 q)]) z3 z4 f3 f4
        · refine r_aload_n rfl rfl ?_
          refine r_getI rfl (so184 hS) ?_
          refine r_goto rfl ?_
          refine r_iret rfl ?_
          rw [hM.1]
          exact hQ2 ef eg (meA a f g) (by unfold sMt; rw [if_pos ⟨c1, c2, q⟩]) z3 z4 f3 f4
    · skip
      refine r_if_ne0 rfl ?_
      refine r_bipush rfl ?_
      refine r_iret rfl ?_
      exact hQ0 (fun k => p0 ⟨k.2.1, by omega⟩)
  · skip
    refine r_if_eq0 rfl ?_
    refine r_bipush rfl ?_
    refine r_iret rfl ?_
    exact hQ0 (fun k => p0 ⟨k.1.1, by omega⟩)
