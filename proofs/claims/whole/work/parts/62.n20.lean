/-! THE FORMS as both sides have them; THE REFERENCE: what is asked of forms, rows, the trace -/
abbrev FA : Type := Int × (Int → Int) × (Int → Int) × (Int → Int → Int) × (Int → Int → Int) × (Int → Int → Int)
abbrev gF (a : FA) : Int := a.1
abbrev gK (a : FA) : Int → Int := a.2.1
abbrev gN (a : FA) : Int → Int := a.2.2.1
abbrev gI (a : FA) : Int → Int → Int := a.2.2.2.1
abbrev gJ (a : FA) : Int → Int → Int := a.2.2.2.2.1
abbrev gV (a : FA) : Int → Int → Int := a.2.2.2.2.2
def FOK (a : FA) : Prop := (0 ≤ a.1 ∧ a.1 ≤ 10) ∧ ∀ f, 0 ≤ f → f < a.1 → FR (gN a f) (gI a f) (gJ a f) (gV a f) ∧ FS (gN a f) (gI a f) (gJ a f) ∧ (0 ≤ gK a f ∧ gK a f ≤ 3) ∧ (gK a f = 0 → gN a f ≤ 12)
/-- the forms as the reference has them -/
def MF (z : ZM) (a : FA) : Prop := z 184 0 = a.1 ∧ ∀ f, 0 ≤ f → f < a.1 → FM z f (gN a f) (gI a f) (gJ a f) (gV a f) ∧ z 185 f = gK a f
theorem MF_x {z : ZM} {a : FA} (h : MF z a) (hk : FOK a) : xF z := by unfold xF; rw [h.1]; exact hk.1
theorem MF_fr {z z' : ZM} {a : FA} (h : MF z a) (h0 : z' 184 0 = z 184 0) (hz : ∀ c, 185 ≤ c → c ≤ 189 → z' c = z c) : MF z' a := by
  refine ⟨h0.trans h.1, fun f f0 f1 => ?_⟩
  obtain ⟨a1, a2⟩ := h.2 f f0 f1
  exact ⟨FM_fr a1 (fun c c0 c1 => hz c (by omega) (by omega)), by rw [hz 185 (by decide) (by decide)]; exact a2⟩
def NOv : Int := -4611686018427387904
def sNum (a : FA) (f i j : Int) : Int := if (0 ≤ f ∧ f < a.1) ∧ fnd (gN a f) (gI a f) (gJ a f) i j ≠ -1 then gV a f (fnd (gN a f) (gI a f) (gJ a f) i j) else -100000
abbrev ptOK (x y q : Int) : Prop := (-1000 ≤ x ∧ x ≤ 1000) ∧ (-1000 ≤ y ∧ y ≤ 1000) ∧ (1 ≤ q ∧ q ≤ 100)
def lsF (a : FA) (f x y q : Int) : Int := leastS (gN a f) (gI a f) (gJ a f) (gV a f) (rdA x q) (rdB x q) (rdA y q) (rdB y q)
def sWor (a : FA) (f x y q u : Int) : Int := if (0 ≤ f ∧ f < a.1 ∧ 0 < gN a f) ∧ ptOK x y q ∧ (0 ≤ u ∧ u ≤ 1) then (if u = 0 then rdA (lsF a f x y q) (rdB x q * rdB y q) else rdB (lsF a f x y q) (rdB x q * rdB y q)) else NOv
def sLea (a : FA) (f x y q : Int) : Int := if (0 ≤ f ∧ f < a.1 ∧ 0 < gN a f) ∧ ptOK x y q then countS (gN a f) (gI a f) (gJ a f) (gV a f) (rdA x q) (rdB x q) (rdA y q) (rdB y q) else -2
def sTak (a : FA) (f k : Int) : Int := if ¬ (0 ≤ k ∧ k ≤ 3) then -2 else if ¬ (0 ≤ f ∧ f < a.1) then -11 else if k = 0 ∨ gK a f = k ∨ (k = 1 ∧ gK a f = 2) then gN a f else -13
theorem pt_PB {x y q : Int} (h : ptOK x y q) : PB (rdA x q) (rdB x q) (rdA y q) (rdB y q) := by
  obtain ⟨h1, h2, h3⟩ := h
  have r1 := rd_b (x := x) (b := q) (A := 1000) (B := 100) h1 (by omega) (by omega)
  have r2 := rd_b (x := y) (b := q) (A := 1000) (B := 100) h2 (by omega) (by omega)
  unfold PB; omega
theorem y_number {X : PX} {d : Nat} {S : SS} {zI zL : ZM} {Q : PQ} (hS : Sk S) {a : FA} (hA : MF zI a) (hk : FOK a) {f i j : Int} (hf : inI f) (hi : inI i) (hj : inI j) (hQ : Q (some (pI (sNum a f i j))) S zI zL) : wpM X (d + 3) fM_number [pR 184, pI f, pI i, pI j] S zI zL Q := by
  have hX := MF_x hA hk
  have hF0 := hA.1
  obtain ⟨kb, hkf⟩ := hk
  have hget : ∀ f, 0 ≤ f → f < zI 184 0 → (FM zI f (gN a f) (gI a f) (gJ a f) (gV a f) ∧ zI 185 f = gK a f) ∧ FR (gN a f) (gI a f) (gJ a f) (gV a f) ∧ FS (gN a f) (gI a f) (gJ a f) ∧ (0 ≤ gK a f ∧ gK a f ≤ 3) ∧ (gK a f = 0 → gN a f ≤ 12) := fun f f0 f1 => ⟨hA.2 f f0 (by omega), hkf f f0 (by omega)⟩
  have rest : ∀ k, ((0 ≤ f ∧ f < a.1) ∧ k = fnd (gN a f) (gI a f) (gJ a f) i j) ∨ (¬ (0 ≤ f ∧ f < a.1) ∧ k = -1) → Run X (d + 2) c_M_number 11 [some (pR 184), some (pI f), some (pI i), some (pI j), none] [pI k] S zI zL 0 0 Q := by
    intro k hkk
    unfold sNum at hQ
    have bk : -1 ≤ k ∧ k ≤ 40 := by
      rcases hkk with ⟨q1, q2⟩ | ⟨-, q⟩
      · obtain ⟨-, hR, -⟩ := hget f q1.1 (by omega)
        have := fnd_in (gN a f) (gI a f) (gJ a f) i j hR.1
        have := hR.2.1
        omega
      · omega
    refine r_istore rfl (Nat.le_of_ble_eq_true rfl) ?_
    refine r_iload rfl rfl ?_
    refine r_if_ge rfl (by unfold inI; omega) (fun h13 => ?_) (fun h13 => ?_)
    · skip
      obtain ⟨q1, q2⟩ : (0 ≤ f ∧ f < a.1) ∧ k = fnd (gN a f) (gI a f) (gJ a f) i j := by
        rcases hkk with q | ⟨-, q⟩
        · exact q
        · omega
      obtain ⟨⟨hT, -⟩, hR, -⟩ := hget f q1.1 (by omega)
      have fi := fnd_in (gN a f) (gI a f) (gJ a f) i j hR.1
      rw [← q2] at fi
      have hn40 := hR.2.1
      have hk1 : 0 ≤ k ∧ k < gN a f := by omega
      obtain ⟨-, -, g3⟩ := hT.2 k hk1.1 hk1.2
      refine r_aload_n rfl rfl ?_
      refine r_getR rfl (so184 hS) (sr184_5 hS) ?_
      refine r_bipush rfl ?_
      refine r_iload_n rfl rfl ?_
      refine r_imul rfl ?_
      refine r_iload rfl rfl ?_
      refine r_iadd rfl ?_
      refine r_iald rfl (sw189 hS) (by omega) (by omega) ?_
      refine r_iret rfl ?_
      rw [← q2, if_pos ⟨q1, by omega⟩] at hQ; rw [g3]; exact hQ
    · skip
      refine r_ldc_w rfl ?_
      refine r_goto rfl ?_
      refine r_iret rfl ?_
      rw [if_neg (fun q => by rcases hkk with ⟨q1, q2⟩ | ⟨q1, -⟩; exact q.2 (by omega); exact q1 q.1)] at hQ; exact hQ
  refine wp_in (C := c_M_number) (ls := [some (pR 184), some (pI f), some (pI i), some (pI j), none]) rfl rfl rfl rfl rfl ?_
  refine r_aload_n rfl rfl ?_
  refine r_iload_n rfl rfl ?_
  refine r_cV2 rfl (so184 hS) (Nat.le_of_ble_eq_true rfl) rfl rfl (x_is hS hf hX (fun p q => ?_) (fun p => ?_))
  · skip
    refine r_if_eq1 rfl ?_
    refine r_aload_n rfl rfl ?_
    refine r_iload_n rfl rfl ?_
    refine r_iload_n rfl rfl ?_
    refine r_iload_n rfl rfl ?_
    refine r_cV4 rfl (so184 hS) (Nat.le_of_ble_eq_true rfl) rfl rfl (x_termAt hS (by omega) (hget f p q).1.1 (hget f p q).2.1 hi hj ?_)
    refine r_goto rfl ?_
    exact rest _ (Or.inl ⟨by omega, rfl⟩)
  · skip
    refine r_if_eq0 rfl ?_
    refine r_iconst rfl ?_
    exact rest _ (Or.inr ⟨by omega, rfl⟩)
set_option maxHeartbeats 1000000 in
theorem y_leastAt {X : PX} {d : Nat} {S : SS} {zI zL : ZM} {Q : PQ} (hS : Sk S) {a : FA} (hA : MF zI a) (hk : FOK a) {f x y q : Int} (hf : inI f) (hx : inI x) (hy : inI y) (hq : inI q) (hQ : ∀ z2, (∀ c, c ≠ 184 → z2 c = zL c) → Q (some (pI (sLea a f x y q))) S zI z2) : wpM X (d + 4) fM_leastAt [pR 184, pI f, pI x, pI y, pI q] S zI zL Q := by
  have hX := MF_x hA hk
  have hF0 := hA.1
  obtain ⟨kb, hkf⟩ := hk
  have hget : ∀ f, 0 ≤ f → f < zI 184 0 → (FM zI f (gN a f) (gI a f) (gJ a f) (gV a f) ∧ zI 185 f = gK a f) ∧ FR (gN a f) (gI a f) (gJ a f) (gV a f) ∧ FS (gN a f) (gI a f) (gJ a f) ∧ (0 ≤ gK a f ∧ gK a f ≤ 3) ∧ (gK a f = 0 → gN a f ≤ 12) := fun f f0 f1 => ⟨hA.2 f f0 (by omega), hkf f f0 (by omega)⟩
  unfold sLea at hQ
  refine wp_in (C := c_M_leastAt) (ls := [some (pR 184), some (pI f), some (pI x), some (pI y), some (pI q)]) rfl rfl rfl rfl rfl ?_
  refine r_aload_n rfl rfl ?_
  refine r_iload_n rfl rfl ?_
  refine r_cV2 rfl (so184 hS) (Nat.le_of_ble_eq_true rfl) rfl rfl (x_hasTerms hS hf hX (fun t0 t1 => by have h1 := (hget f t0 t1).1.1.1; have h2 := (hget f t0 t1).2.1.2.1; have h3 := (hget f t0 t1).2.1.1; unfold inI; omega) (fun t0 t1 t2 => ?_) (fun p0 => ?_))
  · skip
    refine r_if_eq1 rfl ?_
    refine r_aload_n rfl rfl ?_
    refine r_iload_n rfl rfl ?_
    refine r_iload_n rfl rfl ?_
    refine r_iload rfl rfl ?_
    refine r_cV4 rfl (so184 hS) (Nat.le_of_ble_eq_true rfl) rfl rfl (x_isPoint hS hx hy hq (fun p1 p2 p3 => ?_) (fun p0 => ?_))
    · skip
      refine r_if_ne1 rfl ?_
      have hpo : ptOK x y q := ⟨p1, p2, p3⟩
      obtain ⟨⟨hT, -⟩, hR, -⟩ := hget f t0 t1
      have hPB := pt_PB hpo
      have e4 := hT.1
      
      refine r_aload_n rfl rfl ?_
      refine r_iload_n rfl rfl ?_
      refine r_i2l rfl hx ?_
      refine r_iload rfl rfl ?_
      refine r_i2l rfl hq ?_
      refine r_iload_n rfl rfl ?_
      refine r_i2l rfl hy ?_
      refine r_iload rfl rfl ?_
      refine r_i2l rfl hq ?_
      refine r_cV5 rfl (so184 hS) (Nat.le_of_ble_eq_true rfl) rfl rfl (x_standAt hS (by omega) (by omega) (by omega) (by omega) (by omega) (by omega) ?_)
      refine r_aload_n rfl rfl ?_
      refine r_iload_n rfl rfl ?_
      refine r_cV2 rfl (so184 hS) (Nat.le_of_ble_eq_true rfl) rfl rfl (x_countLeast hS (by omega) hT hR PM_st hPB (by omega) ?_)
      refine r_iret rfl ?_
      rw [if_pos ⟨⟨t0, by omega, by omega⟩, hpo⟩] at hQ; exact hQ _ (fun c hc => stM_row hc)
    · skip
      refine r_if_ne0 rfl ?_
      refine r_bipush rfl ?_
      refine r_iret rfl ?_
      rw [if_neg (fun k => p0 k.2)] at hQ; exact hQ zL (fun _ _ => rfl)
  · skip
    refine r_if_eq0 rfl ?_
    refine r_bipush rfl ?_
    refine r_iret rfl ?_
    have nt : ¬ (0 ≤ f ∧ f < a.1 ∧ 0 < gN a f) := fun q => p0 ⟨q.1, by omega, by have h1 := (hget f q.1 (by omega)).1.1.1; omega⟩
    rw [if_neg (fun k => nt k.1)] at hQ; exact hQ zL (fun _ _ => rfl)
set_option maxHeartbeats 1000000 in
theorem y_worth {X : PX} {d : Nat} {S : SS} {zI zL : ZM} {Q : PQ} (hS : Sk S) {a : FA} (hA : MF zI a) (hk : FOK a) {f x y q u : Int} (hf : inI f) (hx : inI x) (hy : inI y) (hq : inI q) (hu : inI u) (hQ : ∀ z2, (∀ c, c ≠ 184 → z2 c = zL c) → Q (some (pL (sWor a f x y q u))) S zI z2) : wpM X (d + 4) fM_worth [pR 184, pI f, pI x, pI y, pI q, pI u] S zI zL Q := by
  have hX := MF_x hA hk
  have hF0 := hA.1
  obtain ⟨kb, hkf⟩ := hk
  have hget : ∀ f, 0 ≤ f → f < zI 184 0 → (FM zI f (gN a f) (gI a f) (gJ a f) (gV a f) ∧ zI 185 f = gK a f) ∧ FR (gN a f) (gI a f) (gJ a f) (gV a f) ∧ FS (gN a f) (gI a f) (gJ a f) ∧ (0 ≤ gK a f ∧ gK a f ≤ 3) ∧ (gK a f = 0 → gN a f ≤ 12) := fun f f0 f1 => ⟨hA.2 f f0 (by omega), hkf f f0 (by omega)⟩
  unfold sWor at hQ
  refine wp_in (C := c_M_worth) (ls := [some (pR 184), some (pI f), some (pI x), some (pI y), some (pI q), some (pI u)]) rfl rfl rfl rfl rfl ?_
  refine r_aload_n rfl rfl ?_
  refine r_iload_n rfl rfl ?_
  refine r_cV2 rfl (so184 hS) (Nat.le_of_ble_eq_true rfl) rfl rfl (x_hasTerms hS hf hX (fun t0 t1 => by have h1 := (hget f t0 t1).1.1.1; have h2 := (hget f t0 t1).2.1.2.1; have h3 := (hget f t0 t1).2.1.1; unfold inI; omega) (fun t0 t1 t2 => ?_) (fun p0 => ?_))
  · skip
    refine r_if_eq1 rfl ?_
    refine r_aload_n rfl rfl ?_
    refine r_iload_n rfl rfl ?_
    refine r_iload_n rfl rfl ?_
    refine r_iload rfl rfl ?_
    refine r_cV4 rfl (so184 hS) (Nat.le_of_ble_eq_true rfl) rfl rfl (x_isPoint hS hx hy hq (fun p1 p2 p3 => ?_) (fun p0 => ?_))
    · skip
      refine r_if_eq1 rfl ?_
      refine r_aload_n rfl rfl ?_
      refine r_iload rfl rfl ?_
      refine r_iconst rfl ?_
      refine r_iconst rfl ?_
      refine r_cV4 rfl (so184 hS) (Nat.le_of_ble_eq_true rfl) rfl rfl (x_in hS hu (by unfold inI; omega) (by unfold inI; omega) (fun u0 u1 => ?_) (fun p0 => ?_))
      · skip
        refine r_if_ne1 rfl ?_
        have hpo : ptOK x y q := ⟨p1, p2, p3⟩
        obtain ⟨⟨hT, -⟩, hR, -⟩ := hget f t0 t1
        have hPB := pt_PB hpo
        have e4 := hT.1
        have hbl := below_b hPB
        have hlb := leastS_b hR hPB
        obtain ⟨⟨b1', b2', b3', b4'⟩, b5', b6', b7', b8'⟩ := hPB
        refine r_aload_n rfl rfl ?_
        refine r_iload_n rfl rfl ?_
        refine r_i2l rfl hx ?_
        refine r_iload rfl rfl ?_
        refine r_i2l rfl hq ?_
        refine r_iload_n rfl rfl ?_
        refine r_i2l rfl hy ?_
        refine r_iload rfl rfl ?_
        refine r_i2l rfl hq ?_
        refine r_cV5 rfl (so184 hS) (Nat.le_of_ble_eq_true rfl) rfl rfl (x_standAt hS (by omega) (by omega) (by omega) (by omega) (by omega) (by omega) ?_)
        refine r_aload_n rfl rfl ?_
        refine r_aload_n rfl rfl ?_
        refine r_iload_n rfl rfl ?_
        refine r_cV2 rfl (so184 hS) (Nat.le_of_ble_eq_true rfl) rfl rfl (x_leastOf hS (by omega) hT hR PM_st (pt_PB hpo) (by omega) ?_)
        refine r_aload_n rfl rfl ?_
        refine r_getL rfl (so184 hS) ?_
        rw [show stM zL (rdA x q) (rdB x q) (rdA y q) (rdB y q) 184 12 = rdB x q from (PM_st (z := zL)).1.2]
        refine r_aload_n rfl rfl ?_
        refine r_getL rfl (so184 hS) ?_
        rw [show stM zL (rdA x q) (rdB x q) (rdA y q) (rdB y q) 184 14 = rdB y q from (PM_st (z := zL)).2.2]
        refine r_lmul rfl ?_
        refine r_iload rfl rfl ?_
        refine r_cV4 rfl (so184 hS) (Nat.le_of_ble_eq_true rfl) rfl rfl (x_lowest hS (by omega) (by omega) (by omega) hu ?_)
        refine r_lret rfl ?_
        rw [if_pos ⟨⟨t0, by omega, by omega⟩, hpo, u0, u1⟩] at hQ; exact hQ _ (fun c hc => stM_row hc)
      · skip
        refine r_if_ne0 rfl ?_
        refine r_ldc2_w rfl ?_
        refine r_lret rfl ?_
        rw [if_neg (fun k => p0 k.2.2)] at hQ; exact hQ zL (fun _ _ => rfl)
    · skip
      refine r_if_eq0 rfl ?_
      refine r_ldc2_w rfl ?_
      refine r_lret rfl ?_
      rw [if_neg (fun k => p0 k.2.1)] at hQ; exact hQ zL (fun _ _ => rfl)
  · skip
    refine r_if_eq0 rfl ?_
    refine r_ldc2_w rfl ?_
    refine r_lret rfl ?_
    have nt : ¬ (0 ≤ f ∧ f < a.1 ∧ 0 < gN a f) := fun q => p0 ⟨q.1, by omega, by have h1 := (hget f q.1 (by omega)).1.1.1; omega⟩
    rw [if_neg (fun k => nt k.1)] at hQ; exact hQ zL (fun _ _ => rfl)
theorem y_taken {X : PX} {d : Nat} {S : SS} {zI zL : ZM} {Q : PQ} (hS : Sk S) {a : FA} (hA : MF zI a) (hk : FOK a) {f k : Int} (hf : inI f) (hk2 : inI k) (hQ : Q (some (pI (sTak a f k))) S zI zL) : wpM X (d + 3) fM_taken [pR 184, pI f, pI k] S zI zL Q := by
  have hX := MF_x hA hk
  have hF0 := hA.1
  obtain ⟨kb, hkf⟩ := hk
  have hget : ∀ f, 0 ≤ f → f < zI 184 0 → (FM zI f (gN a f) (gI a f) (gJ a f) (gV a f) ∧ zI 185 f = gK a f) ∧ FR (gN a f) (gI a f) (gJ a f) (gV a f) ∧ FS (gN a f) (gI a f) (gJ a f) ∧ (0 ≤ gK a f ∧ gK a f ≤ 3) ∧ (gK a f = 0 → gN a f ≤ 12) := fun f f0 f1 => ⟨hA.2 f f0 (by omega), hkf f f0 (by omega)⟩
  unfold sTak at hQ
  refine wp_in (C := c_M_taken) (ls := [some (pR 184), some (pI f), some (pI k), none]) rfl rfl rfl rfl rfl ?_
  refine r_aload_n rfl rfl ?_
  refine r_iload_n rfl rfl ?_
  refine r_iconst rfl ?_
  refine r_iconst rfl ?_
  refine r_cV4 rfl (so184 hS) (Nat.le_of_ble_eq_true rfl) rfl rfl (x_in hS hk2 (by unfold inI; omega) (by unfold inI; omega) (fun p1 p2 => ?_) (fun p0 => ?_))
  · skip
    refine r_if_ne1 rfl ?_
    refine r_aload_n rfl rfl ?_
    refine r_iload_n rfl rfl ?_
    refine r_cV2 rfl (so184 hS) (Nat.le_of_ble_eq_true rfl) rfl rfl (x_is hS hf hX (fun q1 q2 => ?_) (fun p0 => ?_))
    · skip
      refine r_if_ne1 rfl ?_
      obtain ⟨⟨hT, hK⟩, hR, -, hKb, -⟩ := hget f q1 q2
      have e4 := hT.1
      rw [if_neg (by omega), if_neg (by omega)] at hQ
      have fin : ∀ v : Int, ((v = 1 ∧ (k = 0 ∨ gK a f = k ∨ (k = 1 ∧ gK a f = 2))) ∨ (v = 0 ∧ ¬ (k = 0 ∨ gK a f = k ∨ (k = 1 ∧ gK a f = 2)))) → Run X (d + 2) c_M_taken 34 [some (pR 184), some (pI f), some (pI k), none] [pI v] S zI zL 0 0 Q := by
        intro v hv
        refine r_istore_n rfl (Nat.le_of_ble_eq_true rfl) ?_
        refine r_iload_n rfl rfl ?_
        refine r_if_eq rfl (by unfold inI; omega) (fun h36 => ?_) (fun h36 => ?_)
        · skip
          refine r_bipush rfl ?_
          refine r_iret rfl ?_
          rw [if_neg (by omega)] at hQ; exact hQ
        · skip
          refine r_aload_n rfl rfl ?_
          refine r_getR rfl (so184 hS) (sr184_2 hS) ?_
          refine r_iload_n rfl rfl ?_
          refine r_iald rfl (sw186 hS) (by omega) (by omega) ?_
          rw [e4]
          refine r_goto rfl ?_
          refine r_iret rfl ?_
          rw [if_pos (by omega)] at hQ; exact hQ
      refine r_iload_n rfl rfl ?_
      refine r_if_eq rfl (by unfold inI; omega) (fun h15 => ?_) (fun h15 => ?_)
      · skip
        refine r_iconst rfl ?_
        refine r_goto rfl ?_
        exact fin 1 (Or.inl ⟨rfl, by omega⟩)
      · skip
        refine r_aload_n rfl rfl ?_
        refine r_getR rfl (so184 hS) (sr184_1 hS) ?_
        refine r_iload_n rfl rfl ?_
        refine r_iald rfl (sw185 hS) (by omega) (by omega) ?_
        rw [hK]
        refine r_iload_n rfl rfl ?_
        refine r_icmp_eq rfl (by unfold inI; omega) (by unfold inI; omega) (fun h21 => ?_) (fun h21 => ?_)
        · skip
          refine r_iconst rfl ?_
          refine r_goto rfl ?_
          exact fin 1 (Or.inl ⟨rfl, by omega⟩)
        · skip
          refine r_iload_n rfl rfl ?_
          refine r_iconst rfl ?_
          refine r_icmp_ne rfl (by unfold inI; omega) (by unfold inI; omega) (fun h24 => ?_) (fun h24 => ?_)
          · skip
            refine r_iconst rfl ?_
            exact fin 0 (Or.inr ⟨rfl, by omega⟩)
          · skip
            refine r_aload_n rfl rfl ?_
            refine r_getR rfl (so184 hS) (sr184_1 hS) ?_
            refine r_iload_n rfl rfl ?_
            refine r_iald rfl (sw185 hS) (by omega) (by omega) ?_
            rw [hK]
            refine r_iconst rfl ?_
            refine r_icmp_ne rfl (by unfold inI; omega) (by unfold inI; omega) (fun h30 => ?_) (fun h30 => ?_)
            · skip
              refine r_iconst rfl ?_
              exact fin 0 (Or.inr ⟨rfl, by omega⟩)
            · skip
              refine r_iconst rfl ?_
              refine r_goto rfl ?_
              exact fin 1 (Or.inl ⟨rfl, by omega⟩)
    · skip
      refine r_if_ne0 rfl ?_
      refine r_bipush rfl ?_
      refine r_iret rfl ?_
      rw [if_neg (by omega), if_pos (by omega)] at hQ; exact hQ
  · skip
    refine r_if_ne0 rfl ?_
    refine r_bipush rfl ?_
    refine r_iret rfl ?_
    rw [if_pos p0] at hQ; exact hQ
def sRow (rn : Int) (r : Int → Int) (i : Int) : Int := if 0 ≤ i ∧ i < rn then r i else NOv
def MRw (z z2 : ZM) (rn : Int) (r : Int → Int) : Prop := z 184 48 = rn ∧ ∀ k, 0 ≤ k → k < rn → z2 214 k = r k
def sTra (t : List Int) (i : Int) : Int := if 0 ≤ i ∧ i < (t.length : Int) then t.getD i.toNat 0 else -1
def sCnt (a : FA) (rn : Int) (t : List Int) (u : Int) : Int := if u = 0 then a.1 else if u = 1 then rn else if u = 2 then (t.length : Int) else -2
theorem y_row {X : PX} {d : Nat} {S : SS} {zI zL : ZM} {Q : PQ} (hS : Sk S) {rn i : Int} {r : Int → Int} (hr : MRw zI zL rn r) (hn : 0 ≤ rn ∧ rn ≤ 10000) (hi : inI i) (hQ : Q (some (pL (sRow rn r i))) S zI zL) : wpM X (d + 2) fM_row [pR 184, pI i] S zI zL Q := by
  obtain ⟨e48, hel⟩ := hr
  unfold sRow at hQ
  refine wp_in (C := c_M_row) (ls := [some (pR 184), some (pI i)]) rfl rfl rfl rfl rfl ?_
  refine r_aload_n rfl rfl ?_
  refine r_iload_n rfl rfl ?_
  refine r_iconst rfl ?_
  refine r_aload_n rfl rfl ?_
  refine r_getI rfl (so184 hS) ?_
  rw [e48]
  refine r_iconst rfl ?_
  refine r_isub rfl ?_
  refine r_cV4 rfl (so184 hS) (Nat.le_of_ble_eq_true rfl) rfl rfl (x_in hS hi (by unfold inI; omega) (by unfold inI; omega) (fun p1 p2 => ?_) (fun p0 => ?_))
  · skip
    refine r_if_eq1 rfl ?_
    refine r_aload_n rfl rfl ?_
    refine r_getR rfl (so184 hS) (sr184_46 hS) ?_
    refine r_iload_n rfl rfl ?_
    refine r_lald rfl (sw214 hS) (by omega) (by omega) ?_
    rw [hel i p1 (by omega)]
    refine r_goto rfl ?_
    refine r_lret rfl ?_
    rw [if_pos ⟨p1, by omega⟩] at hQ; exact hQ
  · skip
    refine r_if_eq0 rfl ?_
    refine r_ldc2_w rfl ?_
    refine r_lret rfl ?_
    rw [if_neg (by omega)] at hQ; exact hQ
theorem y_forge {X : PX} {d : Nat} {S : SS} {zI zL : ZM} {Q : PQ} (hS : Sk S) {rn i v : Int} {r : Int → Int} (hr : MRw zI zL rn r) (hn : 0 ≤ rn ∧ rn ≤ 10000) (hi : inI i) (hQ1 : 0 ≤ i → i < rn → ∀ z2, (∀ c, c ≠ 214 → z2 c = zL c) → MRw zI z2 rn (updF r i v) → Q (some (pI 1)) S zI z2) (hQ0 : ¬ (0 ≤ i ∧ i < rn) → Q (some (pI (-2))) S zI zL) : wpM X (d + 2) fM_forge [pR 184, pI i, pL v] S zI zL Q := by
  obtain ⟨e48, hel⟩ := hr
  refine wp_in (C := c_M_forge) (ls := [some (pR 184), some (pI i), some (pL v), none]) rfl rfl rfl rfl rfl ?_
  refine r_aload_n rfl rfl ?_
  refine r_iload_n rfl rfl ?_
  refine r_iconst rfl ?_
  refine r_aload_n rfl rfl ?_
  refine r_getI rfl (so184 hS) ?_
  rw [e48]
  refine r_iconst rfl ?_
  refine r_isub rfl ?_
  refine r_cV4 rfl (so184 hS) (Nat.le_of_ble_eq_true rfl) rfl rfl (x_in hS hi (by unfold inI; omega) (by unfold inI; omega) (fun p1 p2 => ?_) (fun p0 => ?_))
  · skip
    refine r_if_ne1 rfl ?_
    refine r_aload_n rfl rfl ?_
    refine r_getR rfl (so184 hS) (sr184_46 hS) ?_
    refine r_iload_n rfl rfl ?_
    refine r_lload_n rfl rfl ?_
    refine r_last rfl (sw214 hS) (by omega) (by omega) ?_
    refine r_iconst rfl ?_
    refine r_iret rfl ?_
    refine hQ1 p1 (by omega) _ (fun c hc => zput_row hc) ⟨e48, fun k k0 k1 => ?_⟩
    unfold updF
    by_cases e : k = i
    · rw [e, zput_at, if_pos rfl]
    · rw [zput_off e, if_neg e]; exact hel k k0 k1
  · skip
    refine r_if_ne0 rfl ?_
    refine r_bipush rfl ?_
    refine r_iret rfl ?_
    exact hQ0 (by omega)
theorem y_trace {X : PX} {d : Nat} {S : SS} {zI zL : ZM} {Q : PQ} (hS : Sk S) {t : List Int} {i : Int} (hT : TrH zI 184 216 50 t) (hl : t.length ≤ 40) (hi : inI i) (hQ : Q (some (pI (sTra t i))) S zI zL) : wpM X (d + 1) fM_trace [pR 184, pI i] S zI zL Q := by
  obtain ⟨e50, hel⟩ := hT
  unfold sTra at hQ
  refine wp_in (C := c_M_trace) (ls := [some (pR 184), some (pI i)]) rfl rfl rfl rfl rfl ?_
  refine r_iload_n rfl rfl ?_
  refine r_if_lt rfl hi (fun h1 => ?_) (fun h1 => ?_)
  · skip
    refine r_iconst rfl ?_
    refine r_iret rfl ?_
    rw [if_neg (by omega)] at hQ; exact hQ
  · skip
    refine r_iload_n rfl rfl ?_
    refine r_aload_n rfl rfl ?_
    refine r_getI rfl (so184 hS) ?_
    rw [e50]
    refine r_icmp_ge rfl hi (by unfold inI; omega) (fun h5 => ?_) (fun h5 => ?_)
    · skip
      refine r_iconst rfl ?_
      refine r_iret rfl ?_
      rw [if_neg (by omega)] at hQ; exact hQ
    · skip
      refine r_iload_n rfl rfl ?_
      refine r_bipush rfl ?_
      refine r_icmp_ge rfl hi (by unfold inI; omega) (fun h8 => ?_) (fun h8 => ?_)
      · skip
        refine r_iconst rfl ?_
        refine r_iret rfl ?_
        rw [if_neg (by omega)] at hQ; exact hQ
      · skip
        refine r_aload_n rfl rfl ?_
        refine r_getR rfl (so184 hS) (sr184_49 hS) ?_
        refine r_iload_n rfl rfl ?_
        refine r_iald rfl (sw216 hS) (by omega) (by omega) ?_
        rw [show zI 216 i = t.getD i.toNat 0 from by have := hel i.toNat (by omega); rw [show ((i.toNat : Nat) : Int) = i by omega] at this; exact this]
        refine r_goto rfl ?_
        refine r_iret rfl ?_
        rw [if_pos (by omega)] at hQ; exact hQ
theorem y_count {X : PX} {d : Nat} {S : SS} {zI zL : ZM} {Q : PQ} (hS : Sk S) {a : FA} (hA : MF zI a)  {rn u : Int} {t : List Int} (hrn : zI 184 48 = rn) (hT : zI 184 50 = (t.length : Int)) (hu : inI u) (hQ : Q (some (pI (sCnt a rn t u))) S zI zL) : wpM X (d + 1) fM_count [pR 184, pI u] S zI zL Q := by
  have hF0 := hA.1
  unfold sCnt at hQ
  refine wp_in (C := c_M_count) (ls := [some (pR 184), some (pI u)]) rfl rfl rfl rfl rfl ?_
  refine r_iload_n rfl rfl ?_
  refine r_if_ne rfl hu (fun h1 => ?_) (fun h1 => ?_)
  · skip
    refine r_iload_n rfl rfl ?_
    refine r_iconst rfl ?_
    refine r_icmp_ne rfl hu (by unfold inI; omega) (fun h7 => ?_) (fun h7 => ?_)
    · skip
      refine r_iload_n rfl rfl ?_
      refine r_iconst rfl ?_
      refine r_icmp_ne rfl hu (by unfold inI; omega) (fun h13 => ?_) (fun h13 => ?_)
      · skip
        refine r_bipush rfl ?_
        refine r_iret rfl ?_
        rw [if_neg (by omega), if_neg (by omega), if_neg (by omega)] at hQ; exact hQ
      · skip
        refine r_aload_n rfl rfl ?_
        refine r_getI rfl (so184 hS) ?_
        rw [hT]
        refine r_goto rfl ?_
        refine r_iret rfl ?_
        rw [if_neg (by omega), if_neg (by omega), if_pos (by omega)] at hQ; exact hQ
    · skip
      refine r_aload_n rfl rfl ?_
      refine r_getI rfl (so184 hS) ?_
      rw [hrn]
      refine r_goto rfl ?_
      refine r_iret rfl ?_
      rw [if_neg (by omega), if_pos (by omega)] at hQ; exact hQ
  · skip
    refine r_aload_n rfl rfl ?_
    refine r_getI rfl (so184 hS) ?_
    rw [hF0]
    refine r_goto rfl ?_
    refine r_iret rfl ?_
    rw [if_pos (by omega)] at hQ; exact hQ
