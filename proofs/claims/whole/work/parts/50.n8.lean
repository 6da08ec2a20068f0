/-! THE REFERENCE: the corners -/
theorem stW_ok {n : Int} {I J V : Int → Int} {a b : Int} : ∀ (m : Nat) (k l g : Int), 0 ≤ k → k + m = n → (l = -1 ∨ (0 ≤ l ∧ l < n ∧ 0 < trE I J a b l)) → (g = -1 ∨ (0 ≤ g ∧ g < n ∧ trE I J a b g < 0)) → ∀ l' g', stW I J V a b m k l g = some (l', g') → (l' = -1 ∨ (0 ≤ l' ∧ l' < n ∧ 0 < trE I J a b l')) ∧ (g' = -1 ∨ (0 ≤ g' ∧ g' < n ∧ trE I J a b g' < 0))
  | 0, _, l, g, _, _, hl, hg, l', g', e => by cases e; exact ⟨hl, hg⟩
  | m + 1, k, l, g, hk, hn, hl, hg, l', g', e => by
    unfold stW at e
    split at e
    · cases e
    · split at e
      · cases e
      · refine stW_ok m (k + 1) _ _ (by omega) (by omega) ?_ ?_ l' g' e
        · unfold stL lwU
          split
          · split
            · exact Or.inr ⟨hk, by omega, by assumption⟩
            · exact hl
          · exact hl
        · unfold stG hgU
          split
          · split
            · exact Or.inr ⟨hk, by omega, by assumption⟩
            · exact hg
          · exact hg
theorem stF_ok {n : Int} {I J V : Int → Int} {a b l g : Int} (hn : 0 ≤ n) (h : stF n I J V a b = some (l, g)) : (l = -1 ∨ (0 ≤ l ∧ l < n ∧ 0 < trE I J a b l)) ∧ (g = -1 ∨ (0 ≤ g ∧ g < n ∧ trE I J a b g < 0)) := stW_ok n.toNat 0 (-1) (-1) (Int.le_refl _) (by omega) (Or.inl rfl) (Or.inl rfl) l g h
def edOK (n : Int) (I J V : Int → Int) (e : EE) : Prop := 0 ≤ e.1 ∧ e.1 < e.2.1 ∧ e.2.1 < n ∧ stF n I J V e.1 e.2.1 = some (e.2.2.1, e.2.2.2)
theorem edJ_ok {n a : Int} {I J V : Int → Int} (ha : 0 ≤ a) : ∀ (m : Nat) (b : Int) (L : List EE), a < b → b + m = n → (∀ e ∈ L, edOK n I J V e) → ∀ e ∈ edJ n I J V a m b L, edOK n I J V e
  | 0, _, L, _, _, h => h
  | m + 1, b, L, hab, hn, h => by
    refine edJ_ok ha m (b + 1) _ (by omega) (by omega) (fun e he => ?_)
    unfold edE at he
    split at he
    · exact h e he
    · rename_i l g hs
      rcases List.mem_append.mp he with q | q
      · exact h e q
      · rw [List.mem_singleton.mp q]; exact ⟨ha, hab, by show b < n; omega, hs⟩
theorem edI_ok {n : Int} {I J V : Int → Int} : ∀ (m : Nat) (a : Int) (L : List EE), 0 ≤ a → a + m = n → (∀ e ∈ L, edOK n I J V e) → ∀ e ∈ edI n I J V m a L, edOK n I J V e
  | 0, _, L, _, _, h => h
  | m + 1, a, L, ha, hn, h => edI_ok m (a + 1) _ (by omega) (by omega) (edJ_ok ha _ _ _ (by omega) (by omega) h)
theorem edL_ok {n : Int} {I J V : Int → Int} (hn : 0 ≤ n) : ∀ e ∈ edL n I J V, edOK n I J V e := edI_ok _ _ _ (Int.le_refl _) (by omega) (fun e he => by cases he)
/-- the corners as the reference has them -/
abbrev KS : Type := Int × (Int → Int) × (Int → Int) × (Int → Int) × (Int → Int) × (Int → Int)
def CrH (z z2 : ZM) (s : KS) : Prop := z 184 33 = s.1 ∧ ∀ t, 0 ≤ t → t < s.1 → (z2 204 (4 * t) = s.2.1 t ∧ z2 204 (4 * t + 1) = s.2.2.1 t ∧ z2 204 (4 * t + 2) = s.2.2.2.1 t ∧ z2 204 (4 * t + 3) = s.2.2.2.2.1 t) ∧ z 205 t = s.2.2.2.2.2 t
def CrR (s : KS) : Prop := PsR s.1 s.2.1 s.2.2.1 s.2.2.2.1 s.2.2.2.2.1
def kcA (s : KS) (x xd y yd : Int) : Int := skS s.1 s.2.1 s.2.2.1 s.2.2.2.1 s.2.2.2.2.1 x xd y yd
abbrev kcE (s : KS) (x xd y yd : Int) : Prop := kcA s x xd y yd < s.1 ∧ cmpP (s.2.1 (kcA s x xd y yd)) (s.2.2.1 (kcA s x xd y yd)) (s.2.2.2.1 (kcA s x xd y yd)) (s.2.2.2.2.1 (kcA s x xd y yd)) x xd y yd = 0
def kcS (s : KS) (x xd y yd : Int) : KS := if kcE s x xd y yd then (s.1, s.2.1, s.2.2.1, s.2.2.2.1, s.2.2.2.2.1, updF s.2.2.2.2.2 (kcA s x xd y yd) (s.2.2.2.2.2 (kcA s x xd y yd) + 1)) else (s.1 + 1, insF s.2.1 (kcA s x xd y yd) x, insF s.2.2.1 (kcA s x xd y yd) xd, insF s.2.2.2.1 (kcA s x xd y yd) y, insF s.2.2.2.2.1 (kcA s x xd y yd) yd, insF s.2.2.2.2.2 (kcA s x xd y yd) 1)
theorem kcA_b {s : KS} {x xd y yd : Int} (h : 0 ≤ s.1) : 0 ≤ kcA s x xd y yd ∧ kcA s x xd y yd ≤ s.1 := skS_b _ _ _ _ _ _ _ _ _ h
theorem kcS_R {s : KS} {x xd y yd : Int} (h : CrR s) (hB : PB x xd y yd) : CrR (kcS s x xd y yd) := by
  unfold kcS
  split
  · exact h
  · have := kcA_b (x := x) (xd := xd) (y := y) (yd := yd) h.1
    exact PsR_ins h this.1 this.2 hB
theorem kcS_m {s : KS} {x xd y yd : Int} : s.1 ≤ (kcS s x xd y yd).1 ∧ (kcS s x xd y yd).1 ≤ s.1 + 1 := by
  unfold kcS
  split
  · exact ⟨Int.le_refl _, by show s.1 ≤ s.1 + 1; omega⟩
  · exact ⟨by show s.1 ≤ s.1 + 1; omega, Int.le_refl _⟩
def frC (z' z : ZM) : Prop := (∀ c, c ≠ 184 → c ≠ 205 → z' c = z c) ∧ ∀ k, k ≠ 33 → z' 184 k = z 184 k
theorem frC_r (z : ZM) : frC z z := ⟨fun _ _ _ => rfl, fun _ _ => rfl⟩
theorem frC_t {z z2 z3 : ZM} (h1 : frC z2 z) (h2 : frC z3 z2) : frC z3 z := ⟨fun c a b => (h2.1 c a b).trans (h1.1 c a b), fun k hk => (h2.2 k hk).trans (h1.2 k hk)⟩
theorem x_kindOf {X : PX} {d : Nat} {S : SS} {zI zL : ZM} {Q : PQ} (hS : Sk S) {k l g : Int} (hk : 0 ≤ k ∧ k < 780) (h1 : zI 201 k = n1 l) (h2 : zI 202 k = n1 g) (hQ : Q (some (pI (knd l g))) S zI zL) : wpM X (d + 1) fM_kindOf [pR 184, pI k] S zI zL Q := by
  have e1 : n1 l = 0 ↔ l = -1 := by unfold n1; split <;> simp_all
  have e2 : n1 g = 0 ↔ g = -1 := by unfold n1; split <;> simp_all
  have i1 := n1_i l
  have i2 := n1_i g
  unfold knd at hQ
  refine wp_in (C := c_M_kindOf) (ls := [some (pR 184), some (pI k)]) rfl rfl rfl rfl rfl ?_
  refine r_aload_n rfl rfl ?_
  refine r_getR rfl (so184 hS) (sr184_24 hS) ?_
  refine r_iload_n rfl rfl ?_
  refine r_bald rfl (sw201 hS) (by omega) (by omega) ?_
  rw [h1]
  refine r_if_eq rfl (by unfold inI; omega) (fun h4 => ?_) (fun h4 => ?_)
  · skip
    refine r_aload_n rfl rfl ?_
    refine r_getR rfl (so184 hS) (sr184_24 hS) ?_
    refine r_iload_n rfl rfl ?_
    refine r_bald rfl (sw201 hS) (by omega) (by omega) ?_
    rw [h1]
    refine r_if_ne rfl (by unfold inI; omega) (fun h16 => ?_) (fun h16 => ?_)
    · skip
      refine r_iconst rfl ?_
      refine r_goto rfl ?_
      refine r_iret rfl ?_
      omega
    · skip
      refine r_aload_n rfl rfl ?_
      refine r_getR rfl (so184 hS) (sr184_25 hS) ?_
      refine r_iload_n rfl rfl ?_
      refine r_bald rfl (sw202 hS) (by omega) (by omega) ?_
      rw [h2]
      refine r_if_eq rfl (by unfold inI; omega) (fun h21 => ?_) (fun h21 => ?_)
      · skip
        refine r_iconst rfl ?_
        refine r_iret rfl ?_
        rw [if_neg (by omega), if_neg (by omega)] at hQ; exact hQ
      · skip
        refine r_iconst rfl ?_
        refine r_goto rfl ?_
        refine r_iret rfl ?_
        rw [if_neg (by omega), if_pos (by omega)] at hQ; exact hQ
  · skip
    refine r_aload_n rfl rfl ?_
    refine r_getR rfl (so184 hS) (sr184_25 hS) ?_
    refine r_iload_n rfl rfl ?_
    refine r_bald rfl (sw202 hS) (by omega) (by omega) ?_
    rw [h2]
    refine r_if_eq rfl (by unfold inI; omega) (fun h9 => ?_) (fun h9 => ?_)
    · skip
      refine r_aload_n rfl rfl ?_
      refine r_getR rfl (so184 hS) (sr184_24 hS) ?_
      refine r_iload_n rfl rfl ?_
      refine r_bald rfl (sw201 hS) (by omega) (by omega) ?_
      rw [h1]
      refine r_if_ne rfl (by unfold inI; omega) (fun h16 => ?_) (fun h16 => ?_)
      · skip
        refine r_iconst rfl ?_
        refine r_goto rfl ?_
        refine r_iret rfl ?_
        rw [if_neg (by omega), if_pos (by omega)] at hQ; exact hQ
      · skip
        refine r_aload_n rfl rfl ?_
        refine r_getR rfl (so184 hS) (sr184_25 hS) ?_
        refine r_iload_n rfl rfl ?_
        refine r_bald rfl (sw202 hS) (by omega) (by omega) ?_
        rw [h2]
        refine r_if_eq rfl (by unfold inI; omega) (fun h21 => ?_) (fun h21 => ?_)
        · skip
          refine r_iconst rfl ?_
          refine r_iret rfl ?_
          omega
        · skip
          refine r_iconst rfl ?_
          refine r_goto rfl ?_
          refine r_iret rfl ?_
          rw [if_neg (by omega), if_pos (by omega)] at hQ; exact hQ
    · skip
      refine r_iconst rfl ?_
      refine r_goto rfl ?_
      refine r_iret rfl ?_
      rw [if_pos ⟨by omega, by omega⟩] at hQ; exact hQ
theorem x_compare {X : PX} {d : Nat} {S : SS} {zI zL : ZM} {Q : PQ} (hS : Sk S) {ca cb na nb : Nat} {k j x xd y yd X0 XD Y YD : Int} (ra : row S 13 ca na) (rb : row S 13 cb nb) (hk : 0 ≤ k ∧ k + 3 < na) (hj : 0 ≤ j ∧ j + 3 < nb) (ha : ptH zL ca k x xd y yd) (hb : ptH zL cb j X0 XD Y YD) (hB : PB x xd y yd) (hC : PB X0 XD Y YD) (hlt : cmpP X0 XD Y YD x xd y yd < 0 → Q (some (pI 1)) S zI zL) (heq : cmpP X0 XD Y YD x xd y yd = 0 → Q (some (pI 0)) S zI zL) (hgt : 0 < cmpP X0 XD Y YD x xd y yd → Q (some (pI (-1))) S zI zL) : wpM X (d + 1) fM_compare [pR 184, pR ca, pI k, pR cb, pI j] S zI zL Q := by
  have l0 : inL 0 := by unfold inL; omega
  have hb2 := cmpP_b hC hB
  obtain ⟨a1, a2, a3, a4⟩ := ha
  obtain ⟨b1, b2, b3, b4⟩ := hb
  refine wp_in (C := c_M_compare) (ls := [some (pR 184), some (pR ca), some (pI k), some (pR cb), some (pI j), none, none, none, none]) rfl rfl rfl rfl rfl ?_
  refine r_aload_n rfl rfl ?_
  refine r_iload_n rfl rfl ?_
  refine r_lald rfl ra (by omega) (by omega) ?_
  refine r_aload_n rfl rfl ?_
  refine r_iload rfl rfl ?_
  refine r_iconst rfl ?_
  refine r_iadd rfl ?_
  refine r_lald rfl rb (by omega) (by omega) ?_
  refine r_lmul rfl ?_
  refine r_aload_n rfl rfl ?_
  refine r_iload rfl rfl ?_
  refine r_lald rfl rb (by omega) (by omega) ?_
  refine r_aload_n rfl rfl ?_
  refine r_iload_n rfl rfl ?_
  refine r_iconst rfl ?_
  refine r_iadd rfl ?_
  refine r_lald rfl ra (by omega) (by omega) ?_
  refine r_lmul rfl ?_
  refine r_lsub rfl ?_
  rw [a1, b2, b1, a2, show x * XD - X0 * xd = -(X0 * xd - x * XD) by omega]
  refine r_lstore rfl (Nat.le_of_ble_eq_true rfl) ?_
  refine r_lload rfl rfl ?_
  refine r_lconst rfl ?_
  refine r_l_eq rfl rfl (by unfold inL; omega) l0 (fun h23 => ?_) (fun h23 => ?_)
  · skip
    refine r_aload_n rfl rfl ?_
    refine r_iload_n rfl rfl ?_
    refine r_iconst rfl ?_
    refine r_iadd rfl ?_
    refine r_lald rfl ra (by omega) (by omega) ?_
    refine r_aload_n rfl rfl ?_
    refine r_iload rfl rfl ?_
    refine r_iconst rfl ?_
    refine r_iadd rfl ?_
    refine r_lald rfl rb (by omega) (by omega) ?_
    refine r_lmul rfl ?_
    refine r_aload_n rfl rfl ?_
    refine r_iload rfl rfl ?_
    refine r_iconst rfl ?_
    refine r_iadd rfl ?_
    refine r_lald rfl rb (by omega) (by omega) ?_
    refine r_aload_n rfl rfl ?_
    refine r_iload_n rfl rfl ?_
    refine r_iconst rfl ?_
    refine r_iadd rfl ?_
    refine r_lald rfl ra (by omega) (by omega) ?_
    refine r_lmul rfl ?_
    refine r_lsub rfl ?_
    rw [a3, b4, b3, a4, show y * YD - Y * yd = -(Y * yd - y * YD) by omega]
    refine r_lstore rfl (Nat.le_of_ble_eq_true rfl) ?_
    refine r_lload rfl rfl ?_
    refine r_lconst rfl ?_
    refine r_l_ge rfl rfl (by unfold inL; omega) l0 (fun h59 => ?_) (fun h59 => ?_)
    · skip
      refine r_lload rfl rfl ?_
      refine r_lconst rfl ?_
      refine r_l_le rfl rfl (by unfold inL; omega) l0 (fun h65 => ?_) (fun h65 => ?_)
      · skip
        refine r_iconst rfl ?_
        refine r_iret rfl ?_
        exact heq (by unfold cmpP; rw [if_pos (by omega)]; omega)
      · skip
        refine r_iconst rfl ?_
        refine r_goto rfl ?_
        refine r_iret rfl ?_
        exact hlt (by unfold cmpP; rw [if_pos (by omega)]; omega)
    · skip
      refine r_iconst rfl ?_
      refine r_goto rfl ?_
      refine r_iret rfl ?_
      exact hgt (by unfold cmpP; rw [if_pos (by omega)]; omega)
  · skip
    refine r_lload rfl rfl ?_
    refine r_lconst rfl ?_
    refine r_l_ge rfl rfl (by unfold inL; omega) l0 (fun h27 => ?_) (fun h27 => ?_)
    · skip
      refine r_iconst rfl ?_
      refine r_iret rfl ?_
      exact hlt (by unfold cmpP; rw [if_neg (by omega)]; omega)
    · skip
      refine r_iconst rfl ?_
      refine r_goto rfl ?_
      refine r_iret rfl ?_
      exact hgt (by unfold cmpP; rw [if_neg (by omega)]; omega)
