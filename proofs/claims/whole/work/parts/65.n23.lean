/-! THE REFERENCE: sheets; acts; how often a prime goes into a number -/
abbrev SA : Type := (Int → Int) × (Int → Int) × (Int → Int → Int)
def SOK (s : SA) : Prop := ∀ k, 0 ≤ k → k < 4 → (-1 ≤ s.1 k ∧ s.1 k ≤ 2) ∧ (0 ≤ s.2.1 k ∧ s.2.1 k ≤ 40) ∧ ∀ i, 0 ≤ i → i < 40 → inI (s.2.2 k i)
def MSh (z : ZM) (s : SA) : Prop := ∀ k, 0 ≤ k → k < 4 → z 217 k = s.1 k ∧ z 218 k = s.2.1 k ∧ ∀ i, 0 ≤ i → i < 40 → z 219 (40 * k + i) = s.2.2 k i
def setSA (s : SA) (k so sz : Int) (it : Int → Int) : SA := (updF s.1 k so, updF s.2.1 k sz, fun g => if g = k then it else s.2.2 g)
def frS (z' z : ZM) : Prop := ∀ c, c ≠ 217 → c ≠ 218 → c ≠ 219 → c ≠ 220 → z' c = z c
theorem SOK_set {s : SA} {k so sz : Int} {it : Int → Int} (h : SOK s) (h1 : -1 ≤ so ∧ so ≤ 2) (h2 : 0 ≤ sz ∧ sz ≤ 40) (h3 : ∀ i, 0 ≤ i → i < 40 → inI (it i)) : SOK (setSA s k so sz it) := by
  intro g g0 g1
  show (-1 ≤ updF s.1 k so g ∧ updF s.1 k so g ≤ 2) ∧ (0 ≤ updF s.2.1 k sz g ∧ updF s.2.1 k sz g ≤ 40) ∧ ∀ i, 0 ≤ i → i < 40 → inI ((if g = k then it else s.2.2 g) i)
  unfold updF
  by_cases e : g = k
  · rw [if_pos e, if_pos e, if_pos e]; exact ⟨h1, h2, h3⟩
  · rw [if_neg e, if_neg e, if_neg e]; exact h g g0 g1
set_option maxHeartbeats 1000000 in
theorem y_sheet {X : PX} {d : Nat} {S : SS} {zI zL : ZM} {Q : PQ} (hS : Sk S) {s : SA} (hs : MSh zI s) {k so n : Int} (hk : inI k) (hso : inI so) (hn : inI n) (hQ0 : (¬ ((0 ≤ k ∧ k ≤ 3) ∧ (-1 ≤ so ∧ so ≤ 2)) ∨ (0 ≤ so ∧ 40 < n)) → Q (some (pI (-2))) S zI zL) (hQ1 : (0 ≤ k ∧ k ≤ 3) → (-1 ≤ so ∧ so ≤ 2) → 0 ≤ so → n < 0 → Q (some (pI (-14))) S zI zL) (hQ2 : (0 ≤ k ∧ k ≤ 3) → (-1 ≤ so ∧ so ≤ 2) → (0 ≤ so → 0 ≤ n ∧ n ≤ 40) → ∀ z, frS z zI → MSh z (setSA s k so (if so < 0 then 0 else n) (fun _ => 0)) → Q (some (pI 1)) S z zL) : wpM X (d + 2) fM_sheet [pR 184, pI k, pI so, pI n] S zI zL Q := by
  have lp : (0 ≤ k ∧ k ≤ 3) → (-1 ≤ so ∧ so ≤ 2) → (0 ≤ so → 0 ≤ n ∧ n ≤ 40) → ∀ i : Int, i ≤ 40 → 0 ≤ i → ∀ z, frS z zI → z 217 = zput zI 217 k so 217 → z 218 = zput zI 218 k (if so < 0 then 0 else n) 218 → (∀ g, 0 ≤ g → g < 160 → z 219 g = if 40 * k ≤ g ∧ g < 40 * k + i then 0 else zI 219 g) → Run X (d + 1) c_M_sheet 41 [some (pR 184), some (pI k), some (pI so), some (pI n), some (pI i)] [] S z zL 0 0 Q := by
    intro bk bs bn
    refine loop_up _ 40 (fun i hi ih i0 z hz h1 h2 h3 => ?_)
    refine r_iload rfl rfl ?_
    refine r_bipush rfl ?_
    refine r_icmp_ge rfl (by unfold inI; omega) (by unfold inI; omega) (fun h43 => ?_) (fun h43 => ?_)
    · skip
      refine r_iconst rfl ?_
      refine r_iret rfl ?_
      refine hQ2 bk bs bn z hz (fun g g0 g1 => ?_)
      obtain ⟨q1, q2, q3⟩ := hs g g0 g1
      show z 217 g = updF s.1 k so g ∧ z 218 g = updF s.2.1 k (if so < 0 then 0 else n) g ∧ ∀ j, 0 ≤ j → j < 40 → z 219 (40 * g + j) = (if g = k then (fun _ => 0) else s.2.2 g) j
      rw [h1, h2]
      unfold updF
      by_cases e : g = k
      · rw [if_pos e, if_pos e, if_pos e, e, zput_at, zput_at]
        exact ⟨rfl, rfl, fun j j0 j1 => by rw [h3 _ (by omega) (by omega), if_pos (by omega)]⟩
      · rw [if_neg e, if_neg e, if_neg e, zput_off e, zput_off e]
        exact ⟨q1, q2, fun j j0 j1 => by rw [h3 _ (by omega) (by omega), if_neg (by omega)]; exact q3 j j0 j1⟩
    · skip
      refine r_aload_n rfl rfl ?_
      refine r_getR rfl (so184 hS) (sr184_53 hS) ?_
      refine r_bipush rfl ?_
      refine r_iload_n rfl rfl ?_
      refine r_imul rfl ?_
      refine r_iload rfl rfl ?_
      refine r_iadd rfl ?_
      refine r_iconst rfl ?_
      refine r_iast rfl (sw219 hS) (by omega) (by omega) ?_
      refine r_iinc rfl rfl ?_
      refine r_goto rfl ?_
      refine ih (by omega) (by omega) _ (fun c c0 c1 c2 c3 => by rw [zput_row c2]; exact hz c c0 c1 c2 c3) (by rw [zput_row (by decide)]; exact h1) (by rw [zput_row (by decide)]; exact h2) (fun g g0 g1 => ?_)
      by_cases e : g = 40 * k + i
      · rw [e, zput_at, if_pos (by omega)]
      · rw [zput_off e, h3 g g0 g1]
        by_cases e2 : 40 * k ≤ g ∧ g < 40 * k + i
        · rw [if_pos e2, if_pos (by omega)]
        · rw [if_neg e2, if_neg (by omega)]
  have go25 : (0 ≤ k ∧ k ≤ 3) → (-1 ≤ so ∧ so ≤ 2) → (0 ≤ so → 0 ≤ n ∧ n ≤ 40) → Run X (d + 1) c_M_sheet 25 [some (pR 184), some (pI k), some (pI so), some (pI n), none] [] S zI zL 0 0 Q := by
    intro bk bs bn
    have l41 : ∀ v, v = (if so < 0 then 0 else n) → Run X (d + 1) c_M_sheet 38 [some (pR 184), some (pI k), some (pI so), some (pI n), none] [pI v, pI k, pR 218] S (zput zI 217 k so) zL 0 0 Q := by
      intro v hv
      refine r_iast rfl (sw218 hS) (by omega) (by omega) ?_
      refine r_iconst rfl ?_
      refine r_istore rfl (Nat.le_of_ble_eq_true rfl) ?_
      exact lp bk bs bn 0 (by decide) (Int.le_refl _) _ (fun c c0 c1 c2 c3 => by rw [zput_row c1, zput_row c0]) (by rw [zput_row (by decide)]) (by rw [hv]; funext g; unfold zput; simp) (fun g g0 g1 => by rw [zput_row (by decide), zput_row (by decide), if_neg (by omega)])
    refine r_aload_n rfl rfl ?_
    refine r_getR rfl (so184 hS) (sr184_51 hS) ?_
    refine r_iload_n rfl rfl ?_
    refine r_iload_n rfl rfl ?_
    refine r_iast rfl (sw217 hS) (by omega) (by omega) ?_
    refine r_aload_n rfl rfl ?_
    refine r_getR rfl (so184 hS) (sr184_52 hS) ?_
    refine r_iload_n rfl rfl ?_
    refine r_iload_n rfl rfl ?_
    refine r_if_ge rfl hso (fun h34 => ?_) (fun h34 => ?_)
    · skip
      refine r_iload_n rfl rfl ?_
      exact l41 n (by rw [if_neg (by omega)])
    · skip
      refine r_iconst rfl ?_
      refine r_goto rfl ?_
      exact l41 0 (by rw [if_pos (by omega)])
  refine wp_in (C := c_M_sheet) (ls := [some (pR 184), some (pI k), some (pI so), some (pI n), none]) rfl rfl rfl rfl rfl ?_
  refine r_aload_n rfl rfl ?_
  refine r_iload_n rfl rfl ?_
  refine r_iconst rfl ?_
  refine r_iconst rfl ?_
  refine r_cV4 rfl (so184 hS) (Nat.le_of_ble_eq_true rfl) rfl rfl (x_in hS hk (by unfold inI; omega) (by unfold inI; omega) (fun p1 p2 => ?_) (fun p0 => ?_))
  · skip
    refine r_if_eq1 rfl ?_
    refine r_aload_n rfl rfl ?_
    refine r_iload_n rfl rfl ?_
    refine r_iconst rfl ?_
    refine r_iconst rfl ?_
    refine r_cV4 rfl (so184 hS) (Nat.le_of_ble_eq_true rfl) rfl rfl (x_in hS hso (by unfold inI; omega) (by unfold inI; omega) (fun p3 p4 => ?_) (fun p0 => ?_))
    · skip
      refine r_if_eq1 rfl ?_
      refine r_iload_n rfl rfl ?_
      refine r_if_lt rfl hso (fun h13 => ?_) (fun h13 => ?_)
      · skip
        refine r_iload_n rfl rfl ?_
        refine r_if_lt rfl hso (fun h20 => ?_) (fun h20 => ?_)
        · skip
          exact go25 ⟨p1, p2⟩ ⟨p3, p4⟩ (fun q => by omega)
        · skip
          refine r_iload_n rfl rfl ?_
          refine r_if_ge rfl hn (fun h22 => ?_) (fun h22 => ?_)
          · skip
            exact go25 ⟨p1, p2⟩ ⟨p3, p4⟩ (fun q => by omega)
          · skip
            refine r_bipush rfl ?_
            refine r_iret rfl ?_
            exact hQ1 ⟨p1, p2⟩ ⟨p3, p4⟩ (by omega) (by omega)
      · skip
        refine r_iload_n rfl rfl ?_
        refine r_bipush rfl ?_
        refine r_icmp_le rfl hn (by unfold inI; omega) (fun h16 => ?_) (fun h16 => ?_)
        · skip
          refine r_iload_n rfl rfl ?_
          refine r_if_lt rfl hso (fun h20 => ?_) (fun h20 => ?_)
          · skip
            exact go25 ⟨p1, p2⟩ ⟨p3, p4⟩ (fun q => by omega)
          · skip
            refine r_iload_n rfl rfl ?_
            refine r_if_ge rfl hn (fun h22 => ?_) (fun h22 => ?_)
            · skip
              exact go25 ⟨p1, p2⟩ ⟨p3, p4⟩ (fun q => by omega)
            · skip
              refine r_bipush rfl ?_
              refine r_iret rfl ?_
              exact hQ1 ⟨p1, p2⟩ ⟨p3, p4⟩ (by omega) (by omega)
        · skip
          refine r_bipush rfl ?_
          refine r_iret rfl ?_
          exact hQ0 (Or.inr ⟨by omega, by omega⟩)
    · skip
      refine r_if_eq0 rfl ?_
      refine r_bipush rfl ?_
      refine r_iret rfl ?_
      exact hQ0 (Or.inl (fun q => p0 q.2))
  · skip
    refine r_if_eq0 rfl ?_
    refine r_bipush rfl ?_
    refine r_iret rfl ?_
    exact hQ0 (Or.inl (fun q => p0 q.1))
def byV (v : Int) : Int := ((i3 v).toInt8.toInt32).toInt
theorem byV_b (v : Int) : inI (byV v) := by
  unfold byV inI
  have h1 := Int32.le_toInt ((i3 v).toInt8.toInt32)
  have h2 := Int32.toInt_lt ((i3 v).toInt8.toInt32)
  omega
theorem MSh_put {z : ZM} {s : SA} {k i v : Int} (hs : MSh z s) (hk : 0 ≤ k ∧ k < 4) (hi : 0 ≤ i ∧ i < 40) : MSh (zput z 219 (40 * k + i) v) (setSA s k (s.1 k) (s.2.1 k) (updF (s.2.2 k) i v)) := by
  intro g g0 g1
  obtain ⟨q1, q2, q3⟩ := hs g g0 g1
  show _ = updF s.1 k (s.1 k) g ∧ _ = updF s.2.1 k (s.2.1 k) g ∧ ∀ j, 0 ≤ j → j < 40 → _ = (if g = k then updF (s.2.2 k) i v else s.2.2 g) j
  unfold updF
  rw [zput_row (by decide), zput_row (by decide)]
  by_cases e : g = k
  · rw [if_pos e, if_pos e, if_pos e, e]
    rw [e] at q1 q2 q3
    refine ⟨q1, q2, fun j j0 j1 => ?_⟩
    show _ = if j = i then v else s.2.2 k j
    by_cases e2 : j = i
    · rw [if_pos e2, e2, zput_at]
    · rw [if_neg e2, zput_off (by omega)]; exact q3 j j0 j1
  · rw [if_neg e, if_neg e, if_neg e]
    refine ⟨q1, q2, fun j j0 j1 => ?_⟩
    rw [zput_off (by omega)]; exact q3 j j0 j1
set_option maxHeartbeats 1000000 in
theorem y_cell {X : PX} {d : Nat} {S : SS} {zI zL : ZM} {Q : PQ} (hS : Sk S) {s : SA} (hs : MSh zI s) (hok : SOK s) {k i v : Int} (hk : inI k) (hi : inI i) (hQ0 : ¬ (0 ≤ k ∧ k ≤ 3) → Q (some (pI (-2))) S zI zL) (hQ1 : (0 ≤ k ∧ k ≤ 3) → s.1 k < 0 → Q (some (pI (-11))) S zI zL) (hQ2 : (0 ≤ k ∧ k ≤ 3) → 0 ≤ s.1 k → ¬ (0 ≤ i ∧ i < s.2.1 k) → Q (some (pI (-12))) S zI zL) (hQ3 : (0 ≤ k ∧ k ≤ 3) → 0 ≤ s.1 k → (0 ≤ i ∧ i < s.2.1 k) → ∀ z, frS z zI → MSh z (setSA s k (s.1 k) (s.2.1 k) (updF (s.2.2 k) i (if s.1 k = 0 then byV v else v))) → Q (some (pI 1)) S z zL) : wpM X (d + 2) fM_cell [pR 184, pI k, pI i, pI v] S zI zL Q := by
  refine wp_in (C := c_M_cell) (ls := [some (pR 184), some (pI k), some (pI i), some (pI v)]) rfl rfl rfl rfl rfl ?_
  refine r_aload_n rfl rfl ?_
  refine r_iload_n rfl rfl ?_
  refine r_iconst rfl ?_
  refine r_iconst rfl ?_
  refine r_cV4 rfl (so184 hS) (Nat.le_of_ble_eq_true rfl) rfl rfl (x_in hS hk (by unfold inI; omega) (by unfold inI; omega) (fun p1 p2 => ?_) (fun p0 => ?_))
  · skip
    refine r_if_ne1 rfl ?_
    obtain ⟨q1, q2, q3⟩ := hs k p1 (by omega)
    obtain ⟨b1', b2', b3'⟩ := hok k p1 (by omega)
    refine r_aload_n rfl rfl ?_
    refine r_getR rfl (so184 hS) (sr184_51 hS) ?_
    refine r_iload_n rfl rfl ?_
    refine r_iald rfl (sw217 hS) (by omega) (by omega) ?_
    rw [q1]
    refine r_if_ge rfl (by unfold inI; omega) (fun h12 => ?_) (fun h12 => ?_)
    · skip
      refine r_aload_n rfl rfl ?_
      refine r_iload_n rfl rfl ?_
      refine r_iconst rfl ?_
      refine r_aload_n rfl rfl ?_
      refine r_getR rfl (so184 hS) (sr184_52 hS) ?_
      refine r_iload_n rfl rfl ?_
      refine r_iald rfl (sw218 hS) (by omega) (by omega) ?_
      rw [q2]
      refine r_iconst rfl ?_
      refine r_isub rfl ?_
      refine r_cV4 rfl (so184 hS) (Nat.le_of_ble_eq_true rfl) rfl rfl (x_in hS hi (by unfold inI; omega) (by unfold inI; omega) (fun p3 p4 => ?_) (fun p0 => ?_))
      · skip
        refine r_if_ne1 rfl ?_
        refine r_aload_n rfl rfl ?_
        refine r_getR rfl (so184 hS) (sr184_53 hS) ?_
        refine r_bipush rfl ?_
        refine r_iload_n rfl rfl ?_
        refine r_imul rfl ?_
        refine r_iload_n rfl rfl ?_
        refine r_iadd rfl ?_
        refine r_aload_n rfl rfl ?_
        refine r_getR rfl (so184 hS) (sr184_51 hS) ?_
        refine r_iload_n rfl rfl ?_
        refine r_iald rfl (sw217 hS) (by omega) (by omega) ?_
        rw [q1]
        refine r_if_ne rfl (by unfold inI; omega) (fun h39 => ?_) (fun h39 => ?_)
        · skip
          refine r_iload_n rfl rfl ?_
          refine r_iast rfl (sw219 hS) (by omega) (by omega) ?_
          refine r_iconst rfl ?_
          refine r_iret rfl ?_
          rw [if_neg h39] at hQ3; exact hQ3 ⟨p1, p2⟩ (by omega) ⟨p3, by omega⟩ _ (fun c c0 c1 c2 c3 => zput_row c2) (MSh_put hs ⟨p1, by omega⟩ ⟨p3, by omega⟩)
        · skip
          refine r_iload_n rfl rfl ?_
          refine r_i2b rfl ?_
          refine r_goto rfl ?_
          refine r_iast rfl (sw219 hS) (by omega) (by omega) ?_
          refine r_iconst rfl ?_
          refine r_iret rfl ?_
          rw [if_pos h39] at hQ3; exact hQ3 ⟨p1, p2⟩ (by omega) ⟨p3, by omega⟩ _ (fun c c0 c1 c2 c3 => zput_row c2) (MSh_put hs ⟨p1, by omega⟩ ⟨p3, by omega⟩)
      · skip
        refine r_if_ne0 rfl ?_
        refine r_bipush rfl ?_
        refine r_iret rfl ?_
        exact hQ2 ⟨p1, p2⟩ (by omega) (by omega)
    · skip
      refine r_bipush rfl ?_
      refine r_iret rfl ?_
      exact hQ1 ⟨p1, p2⟩ (by omega)
  · skip
    refine r_if_ne0 rfl ?_
    refine r_bipush rfl ?_
    refine r_iret rfl ?_
    exact hQ0 p0
set_option maxHeartbeats 1000000 in
theorem y_act {X : PX} {d : Nat} {S : SS} {zI zL : ZM} {Q : PQ} (hS : Sk S) {a : FA} (hA : MF zI a) (hk : FOK a) {f c x : Int} (hf : inI f) (hc : inI c) (hQ0 : ¬ ((0 ≤ f ∧ f < a.1) ∧ (0 ≤ c ∧ c ≤ 2)) → ∀ z, frU z zI → TrH z 184 216 50 [] → Q (some (pI 0)) S z zL) (hQ1 : (0 ≤ f ∧ f < a.1) → (0 ≤ c ∧ c ≤ 2) → ∀ z, frU z zI → TrH z 184 216 50 (if c = 0 then lieT (gK a f) else if c = 1 then weiT (gK a f) else metT (gK a f)) → Q (some (pI (if c = 0 then lieV (gK a f) (gN a f) x else if c = 1 then weiV (gK a f) (gN a f) x else meeV (gK a f) (gN a f) f x))) S z zL) : wpM X (d + 9) fM_act [pR 184, pI f, pI c, pI x] S zI zL Q := by
  have hX := MF_x hA hk
  have hF0 := hA.1
  obtain ⟨kb, hkf⟩ := hk
  have hget : ∀ f, 0 ≤ f → f < zI 184 0 → (FM zI f (gN a f) (gI a f) (gJ a f) (gV a f) ∧ zI 185 f = gK a f) ∧ FR (gN a f) (gI a f) (gJ a f) (gV a f) ∧ FS (gN a f) (gI a f) (gJ a f) ∧ (0 ≤ gK a f ∧ gK a f ≤ 3) ∧ (gK a f = 0 → gN a f ≤ 12) := fun f f0 f1 => ⟨hA.2 f f0 (by omega), hkf f f0 (by omega)⟩
  refine wp_in (C := c_M_act) (ls := [some (pR 184), some (pI f), some (pI c), some (pI x)]) rfl rfl rfl rfl rfl ?_
  refine r_aload_n rfl rfl ?_
  refine r_iconst rfl ?_
  refine r_putI rfl (so184 hS) ?_
  have g0 : frU (zput zI 184 50 0) zI := ⟨fun c c0 c1 => zput_row c0, fun k hk => zput_off hk⟩
  have hT0 : TrH (zput zI 184 50 0) 184 216 50 [] := ⟨zput_at, fun j hj => by simp at hj⟩
  have hX1 : xF (zput zI 184 50 0) := by unfold xF; rw [zput_off (by decide)]; exact hX
  have hF1 : zput zI 184 50 0 184 0 = zI 184 0 := zput_off (by decide)
  obtain ⟨z0, hz0⟩ : ∃ z0, z0 = zput zI 184 50 0 := ⟨_, rfl⟩
  rw [← hz0] at g0 hT0 hX1 hF1 ⊢
  refine r_aload_n rfl rfl ?_
  refine r_iload_n rfl rfl ?_
  refine r_cV2 rfl (so184 hS) (Nat.le_of_ble_eq_true rfl) rfl rfl (x_is hS hf hX1 (fun p q => ?_) (fun p0 => ?_))
  · skip
    refine r_if_eq1 rfl ?_
    refine r_aload_n rfl rfl ?_
    refine r_iload_n rfl rfl ?_
    refine r_iconst rfl ?_
    refine r_iconst rfl ?_
    refine r_cV4 rfl (so184 hS) (Nat.le_of_ble_eq_true rfl) rfl rfl (x_in hS hc (by unfold inI; omega) (by unfold inI; omega) (fun p2 q2 => ?_) (fun p0 => ?_))
    · skip
      refine r_if_ne1 rfl ?_
      have ef : 0 ≤ f ∧ f < a.1 := ⟨p, by omega⟩
      obtain ⟨⟨hT, hK⟩, hR, -, hKb, -⟩ := hget f p (by omega)
      have hKT : KTH z0 f (gK a f) (gN a f) := KTH_fr ⟨hK, hT.1⟩ g0
      refine r_iload_n rfl rfl ?_
      refine r_if_ne rfl (by unfold inI; omega) (fun h16 => ?_) (fun h16 => ?_)
      · skip
        refine r_iload_n rfl rfl ?_
        refine r_iconst rfl ?_
        refine r_icmp_ne rfl (by unfold inI; omega) (by unfold inI; omega) (fun h24 => ?_) (fun h24 => ?_)
        · skip
          refine r_aload_n rfl rfl ?_
          refine r_iload_n rfl rfl ?_
          refine r_iload_n rfl rfl ?_
          refine r_cV3 rfl (so184 hS) (Nat.le_of_ble_eq_true rfl) rfl rfl (x_meetsOf hS (by omega) hKT hT0 (by simp) hKb (fun z2 g2 hT2 => ?_))
          refine r_iret rfl ?_
          have h1 := hQ1 ef ⟨p2, q2⟩ z2 (frU_t g0 g2)
          rw [if_neg h16, if_neg h24, if_neg h16, if_neg h24] at h1; exact h1 hT2
        · skip
          refine r_aload_n rfl rfl ?_
          refine r_iload_n rfl rfl ?_
          refine r_iload_n rfl rfl ?_
          refine r_cV3 rfl (so184 hS) (Nat.le_of_ble_eq_true rfl) rfl rfl (x_weighsOf (d := d + 2) hS (by omega) hKT hT0 (by simp) hKb (fun z2 g2 hT2 => ?_))
          refine r_goto rfl ?_
          refine r_iret rfl ?_
          have h1 := hQ1 ef ⟨p2, q2⟩ z2 (frU_t g0 g2)
          rw [if_neg h16, if_pos h24, if_neg h16, if_pos h24] at h1; exact h1 hT2
      · skip
        refine r_aload_n rfl rfl ?_
        refine r_iload_n rfl rfl ?_
        refine r_iload_n rfl rfl ?_
        refine r_cV3 rfl (so184 hS) (Nat.le_of_ble_eq_true rfl) rfl rfl (x_liesOf (d := d + 4) hS (by omega) hKT hT0 (by simp) hKb (fun z2 g2 hT2 => ?_))
        refine r_goto rfl ?_
        refine r_iret rfl ?_
        have h1 := hQ1 ef ⟨p2, q2⟩ z2 (frU_t g0 g2)
        rw [if_pos h16, if_pos h16] at h1; exact h1 hT2
    · skip
      refine r_if_ne0 rfl ?_
      refine r_iconst rfl ?_
      refine r_iret rfl ?_
      exact hQ0 (fun k => p0 k.2) z0 g0 hT0
  · skip
    refine r_if_eq0 rfl ?_
    refine r_iconst rfl ?_
    refine r_iret rfl ?_
    exact hQ0 (fun k => p0 ⟨k.1.1, by omega⟩) z0 g0 hT0
def tmT (q : Int) : Nat → Int → Int → Int
  | 0, _, t => t
  | m + 1, x, t => if x.tmod q = 0 then tmT q m (x.tdiv q) (t + 1) else t
/-- how often a prime goes into a number -/
def tim (q x : Int) : Int := tmT q 64 x 0
theorem tm_half {x q : Int} (hq : 2 ≤ q) (hx : x ≠ 0) (h : x.tmod q = 0) : x.tdiv q ≠ 0 ∧ 2 * (x.tdiv q).natAbs ≤ x.natAbs := by
  have h1 := Int.mul_tdiv_add_tmod x q
  rw [h, Int.add_zero] at h1
  have h0 : x.tdiv q ≠ 0 := fun e => hx (by rw [← h1, e, Int.mul_zero])
  refine ⟨h0, ?_⟩
  rw [← h1]
  have h2 : (q * x.tdiv q).natAbs = q.natAbs * (x.tdiv q).natAbs := Int.natAbs_mul _ _
  rw [h1] at h2 ⊢
  rw [h2]
  exact Nat.mul_le_mul_right _ (by omega)
theorem x_timesIn {X : PX} {d : Nat} {S : SS} {zI zL : ZM} {Q : PQ} (hS : Sk S) {q v : Int} (hq : 2 ≤ q ∧ q ≤ 7) (hv : inI v) (h0 : v ≠ 0) (hQ : Q (some (pI (tim q v))) S zI zL) : wpM X (d + 1) fM_timesIn [pR 184, pI q, pI v] S zI zL Q := by
  have l0 : inL 0 := by unfold inL; omega
  have lq : inL q := by unfold inL; omega
  have key : ∀ (m : Nat) (x t : Int), x ≠ 0 → x.natAbs < 2 ^ m → x.natAbs ≤ 2147483648 → tmT q m x t = tim q v → Run X d c_M_timesIn 5 [some (pR 184), some (pI q), some (pI v), some (pL x), none, some (pI t)] [] S zI zL 0 0 Q := by
    intro m
    induction m with
    | zero => intro x t hx hm; omega
    | succ m ih =>
      intro x t hx hm hb hs
      have lx : inL x := by unfold inL; omega
      have hmod : (-(q.natAbs : Int)) ≤ x.tmod q ∧ x.tmod q ≤ (q.natAbs : Int) := by
        have h1 := Int.natAbs_tmod x q
        have h2 := Nat.mod_lt x.natAbs (show 0 < q.natAbs by omega)
        omega
      unfold tmT at hs
      refine r_lload_n rfl rfl ?_
      refine r_iload_n rfl rfl ?_
      refine r_i2l rfl (by unfold inI; omega) ?_
      refine r_lrem rfl lx lq (by omega) ?_
      refine r_lconst rfl ?_
      refine r_l_ne rfl rfl (by unfold inL; omega) l0 (fun h11 => ?_) (fun h11 => ?_)
      · skip
        rw [if_neg h11] at hs
        refine r_iload rfl rfl ?_
        refine r_iret rfl ?_
        rw [hs]; exact hQ
      · skip
        refine r_lload_n rfl rfl ?_
        refine r_iload_n rfl rfl ?_
        refine r_i2l rfl (by unfold inI; omega) ?_
        refine r_ldiv rfl lx lq (by omega) ?_
        refine r_lstore_n rfl (Nat.le_of_ble_eq_true rfl) ?_
        refine r_iinc rfl rfl ?_
        refine r_goto rfl ?_
        rw [if_pos h11] at hs
        obtain ⟨k1, k2⟩ := tm_half hq.1 hx h11
        rw [Nat.pow_succ] at hm
        exact ih _ _ k1 (by omega) (by omega) hs
  refine wp_in (C := c_M_timesIn) (ls := [some (pR 184), some (pI q), some (pI v), none, none, none]) rfl rfl rfl rfl rfl ?_
  refine r_iload_n rfl rfl ?_
  refine r_i2l rfl hv ?_
  refine r_lstore_n rfl (Nat.le_of_ble_eq_true rfl) ?_
  refine r_iconst rfl ?_
  refine r_istore rfl (Nat.le_of_ble_eq_true rfl) ?_
  unfold inI at hv
  have : v.natAbs < 2 ^ 64 := by
    have : (2 : Nat) ^ 64 = 18446744073709551616 := by decide
    omega
  exact key 64 v 0 h0 this (by omega) rfl
