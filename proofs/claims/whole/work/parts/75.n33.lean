/-! THE REFERENCE: what is told of a form -/
def RGa (a : FA) : Prop := ∀ f, 0 ≤ f → f < a.1 → ringOK (gN a f) (gI a f) (gJ a f) (areaR (gN a f) (gI a f) (gJ a f)) ∧ pcOK (gN a f) (gI a f) (gJ a f) (gV a f) (crA a f)
def smoA (a : FA) (f : Int) : Int := smoS (gN a f) (gI a f) (gJ a f) (gV a f) ((edA a f).length : Int) (eFo (edA a f)) (eLa (edA a f)) (crA a f).1 (crA a f).2.1 (crA a f).2.2.1 (crA a f).2.2.2.1 (crA a f).2.2.2.2.1
def ckKd (ne : Int) (fi ls : Int → Int) (k : Int) : Int := cnt (fun e => decide (knd (fi e) (ls e) = k)) ne.toNat 0
def sTol (a : FA) (id : Int → Int → Int) (f u : Int) : Int := if ¬ ((0 ≤ f ∧ f < a.1) ∧ (0 ≤ u ∧ u ≤ 9)) then -2 else if u = 0 then gK a f else if u = 1 then gN a f else if u = 2 then ((edA a f).length : Int) else if u = 3 then (crA a f).1 else if u = 4 then areaR (gN a f) (gI a f) (gJ a f) else if u = 5 then smoA a f else if u = 6 then cnt (fun t => decide (id f t ≠ 0)) (gN a f).toNat 0 else ckKd ((edA a f).length : Int) (eFi (edA a f)) (eLs (edA a f)) (u - 6)
def frY (z' z : ZM) : Prop := (∀ c, c ≠ 184 → (c < 194 ∨ 202 < c) → c ≠ 205 → z' c = z c) ∧ ∀ k, k ≠ 17 → k ≠ 18 → k ≠ 27 → k ≠ 28 → k ≠ 33 → z' 184 k = z 184 k
def frYL (z' z : ZM) : Prop := ∀ c, c ≠ 184 → c ≠ 203 → c ≠ 204 → z' c = z c
theorem frY_r (z : ZM) : frY z z := ⟨fun _ _ _ _ => rfl, fun _ _ _ _ _ _ => rfl⟩
theorem frYL_r (z : ZM) : frYL z z := fun _ _ _ _ => rfl
theorem frY_R {z z2 z3 : ZM} (h1 : frY z2 z) (h2 : frR z3 z2) : frY z3 z := ⟨fun c a b e => (h2.1 c a (by omega) (by omega)).trans (h1.1 c a b e), fun k a b c e g => (h2.2 k a).trans (h1.2 k a b c e g)⟩
theorem frY_K {z z2 z3 : ZM} (h1 : frY z2 z) (h2 : frK z3 z2) : frY z3 z := ⟨fun c a b e => (h2.1 c a (by omega) e).trans (h1.1 c a b e), fun k a b c e g => (h2.2 k b c e g).trans (h1.2 k a b c e g)⟩
theorem frYL_K {z z2 z3 : ZM} (h1 : frYL z2 z) (h2 : frKL z3 z2) : frYL z3 z := fun c a b e => (h2.1 c a b e).trans (h1 c a b e)
theorem frYL_S {z z2 z3 : ZM} (h1 : frYL z2 z) (h2 : ∀ c, c ≠ 184 → z3 c = z2 c) : frYL z3 z := fun c a b e => (h2 c a).trans (h1 c a b e)
theorem crL_pos {n : Int} {I J V : Int → Int} (hn : 0 ≤ n) (h : 0 < (crL n I J V).1) : 0 < n := by
  have h1 := crL_m n I J V
  have hl : 0 < (edL n I J V).length := by omega
  obtain ⟨g, hge⟩ : ∃ g, (edL n I J V)[0]? = some g := ⟨_, List.getElem?_eq_getElem hl⟩
  obtain ⟨o1, o2, o3, -⟩ := edL_ok (I := I) (J := J) (V := V) hn g (List.mem_of_getElem? hge)
  omega
set_option maxHeartbeats 4000000 in
theorem y_told {X : PX} {d : Nat} {S : SS} {zI zL : ZM} {Q : PQ} (hS : Sk S) {a : FA} (hA : MF zI a) (hk : FOK a) (hcp : CPa a) {id : Int → Int → Int} (hid : IDa a id) (hrn : RGa a) {f u : Int} (hf : inI f) (hu : inI u) (hQ : ∀ z z2, frY z zI → frYL z2 zL → Q (some (pI (sTol a id f u))) S z z2) : wpM X (d + 6) fM_told [pR 184, pI f, pI u] S zI zL Q := by
  have hX := MF_x hA hk
  have hF0 := hA.1
  obtain ⟨kb, hkf⟩ := hk
  have hget : ∀ f, 0 ≤ f → f < zI 184 0 → (FM zI f (gN a f) (gI a f) (gJ a f) (gV a f) ∧ zI 185 f = gK a f) ∧ FR (gN a f) (gI a f) (gJ a f) (gV a f) ∧ FS (gN a f) (gI a f) (gJ a f) ∧ (0 ≤ gK a f ∧ gK a f ≤ 3) ∧ (gK a f = 0 → gN a f ≤ 12) := fun f f0 f1 => ⟨hA.2 f f0 (by omega), hkf f f0 (by omega)⟩
  unfold sTol at hQ
  refine wp_in (C := c_M_told) (ls := [some (pR 184), some (pI f), some (pI u), none, none]) rfl rfl rfl rfl rfl ?_
  refine r_aload_n rfl rfl ?_
  refine r_iload_n rfl rfl ?_
  refine r_cV2 rfl (so184 hS) (Nat.le_of_ble_eq_true rfl) rfl rfl (x_is hS hf hX (fun p q => ?_) (fun p0 => ?_))
  · skip
    refine r_if_eq1 rfl ?_
    refine r_aload_n rfl rfl ?_
    refine r_iload_n rfl rfl ?_
    refine r_iconst rfl ?_
    refine r_bipush rfl ?_
    refine r_cV4 rfl (so184 hS) (Nat.le_of_ble_eq_true rfl) rfl rfl (x_in hS hu (by unfold inI; omega) (by unfold inI; omega) (fun p2 q2 => ?_) (fun p0 => ?_))
    · skip
      refine r_if_ne1 rfl ?_
      refine r_iload_n rfl rfl ?_
      have ef : 0 ≤ f ∧ f < a.1 := ⟨p, by omega⟩
      obtain ⟨⟨hT, hK⟩, hR, hS2, hkb, -⟩ := hget f p q
      have hc7 : (edL (gN a f) (gI a f) (gJ a f) (gV a f)).length ≤ 700 := hcp f ef.1 ef.2
      obtain ⟨hrg1, hrg2⟩ := hrn f ef.1 ef.2
      have hz0 := frY_r zI
      have hz2 := frYL_r zL
      have e4 := hT.1
      by_cases u0 : u = 0
      · subst u0
        rw [if_neg (fun k => k ⟨ef, p2, q2⟩)] at hQ
        refine r_tsw rfl hu rfl ?_
        refine r_aload_n rfl rfl ?_
        refine r_getR rfl (so184 hS) (sr184_1 hS) ?_
        refine r_iload_n rfl rfl ?_
        refine r_iald rfl (sw185 hS) (by omega) (by omega) ?_
        rw [hK]
        rw [if_pos rfl] at hQ
        refine r_iret rfl ?_
        exact hQ _ _ hz0 hz2
      by_cases u1 : u = 1
      · subst u1
        rw [if_neg (fun k => k ⟨ef, p2, q2⟩)] at hQ
        refine r_tsw rfl hu rfl ?_
        refine r_aload_n rfl rfl ?_
        refine r_getR rfl (so184 hS) (sr184_2 hS) ?_
        refine r_iload_n rfl rfl ?_
        refine r_iald rfl (sw186 hS) (by omega) (by omega) ?_
        rw [e4]
        rw [if_neg (by decide), if_pos rfl] at hQ
        refine r_iret rfl ?_
        exact hQ _ _ hz0 hz2
      by_cases u4 : u = 4
      · subst u4
        rw [if_neg (fun k => k ⟨ef, p2, q2⟩)] at hQ
        refine r_tsw rfl hu rfl ?_
        refine r_aload_n rfl rfl ?_
        refine r_iload_n rfl rfl ?_
        refine r_cV2 rfl (so184 hS) (Nat.le_of_ble_eq_true rfl) rfl rfl (x_areaOf (d := d + 2) hS (by omega) hT hR hrg1 (fun z5 f5 => ?_))
        rw [if_neg (by decide), if_neg (by decide), if_neg (by decide), if_neg (by decide), if_pos rfl] at hQ
        refine r_iret rfl ?_
        exact hQ z5 zL (frY_R hz0 f5) hz2
      by_cases u6 : u = 6
      · subst u6
        rw [if_neg (fun k => k ⟨ef, p2, q2⟩)] at hQ
        refine r_tsw rfl hu rfl ?_
        refine r_aload_n rfl rfl ?_
        refine r_iload_n rfl rfl ?_
        refine r_cV2 rfl (so184 hS) (Nat.le_of_ble_eq_true rfl) rfl rfl (x_idles (d := d + 1) hS (by omega) hT hR (hid f ef.1 ef.2) ?_)
        rw [if_neg (by decide), if_neg (by decide), if_neg (by decide), if_neg (by decide), if_neg (by decide), if_neg (by decide), if_pos rfl] at hQ
        refine r_iret rfl ?_
        exact hQ _ _ hz0 hz2
      have rst : Run X (d + 5) c_M_told 32 [some (pR 184), some (pI f), some (pI u), none, none] [] S zI zL 0 0 Q := by
        refine r_aload_n rfl rfl ?_
        refine r_iload_n rfl rfl ?_
        refine r_cV2 rfl (so184 hS) (Nat.le_of_ble_eq_true rfl) rfl rfl (x_findCorners (d := d) hS (by omega) hT hR hS2 (by omega) (fun z3 z4 f3 f4 hE hC hCR => ?_))
        have edAe : ((edA a f).length : Int) = ((edL (gN a f) (gI a f) (gJ a f) (gV a f)).length : Int) := rfl
        have lp : u ≠ 6 → 7 ≤ u → ∀ e : Int, e ≤ ((edA a f).length : Int) → 0 ≤ e → ∀ c : Int, 0 ≤ c → c ≤ e → c + cnt (fun e => decide (knd (eFi (edA a f) e) (eLs (edA a f) e) = u - 6)) (((edA a f).length : Int) - e).toNat e = cnt (fun e => decide (knd (eFi (edA a f) e) (eLs (edA a f) e) = u - 6)) ((edA a f).length : Int).toNat 0 → Run X (d + 5) c_M_told 62 [some (pR 184), some (pI f), some (pI u), some (pI c), some (pI e)] [] S z3 z4 0 0 Q := by
          intro _ u7
          refine loop_up _ ((edA a f).length : Int) (fun e he ih e0 c c0 c1 hs => ?_)
          refine r_iload rfl rfl ?_
          refine r_aload_n rfl rfl ?_
          refine r_getI rfl (so184 hS) ?_
          rw [hE.1]
          refine r_icmp_ge rfl (by unfold inI edA at *; omega) (by unfold inI; omega) (fun h65 => ?_) (fun h65 => ?_)
          · skip
            refine r_iload_n rfl rfl ?_
            refine r_iret rfl ?_
            have e1 : c = ckKd ((edA a f).length : Int) (eFi (edA a f)) (eLs (edA a f)) (u - 6) := by
              unfold ckKd
              rw [cnt_e (by omega), Int.add_zero] at hs
              exact hs
            rw [if_neg (fun k => k ⟨ef, p2, q2⟩), if_neg (by omega), if_neg (by omega), if_neg (by omega), if_neg (by omega), if_neg (by omega), if_neg (by omega), if_neg (by omega)] at hQ
            rw [e1]
            exact hQ z3 z4 (frY_K hz0 f3) (frYL_K hz2 f4)
          · skip
            have hlt : e.toNat < (edA a f).length := by unfold edA; omega
            obtain ⟨g, hge⟩ : ∃ g, (edA a f)[e.toNat]? = some g := ⟨_, List.getElem?_eq_getElem hlt⟩
            obtain ⟨⟨-, -, -, -, -, g6, g7⟩, -, -⟩ := hE.2 e.toNat g hge
            have hfo := eFo_at hge
            rw [show ((e.toNat : Nat) : Int) = e by omega] at g6 g7 hfo
            have hkn : knd (eFi (edA a f) e) (eLs (edA a f) e) = knd g.2.2.1 g.2.2.2 := by rw [hfo.2.2.1, hfo.2.2.2]
            have hkb3 : 1 ≤ knd g.2.2.1 g.2.2.2 ∧ knd g.2.2.1 g.2.2.2 ≤ 3 := by unfold knd; split <;> (try split) <;> omega
            refine r_iload_n rfl rfl ?_
            refine r_aload_n rfl rfl ?_
            refine r_iload rfl rfl ?_
            refine r_cV2 rfl (so184 hS) (Nat.le_of_ble_eq_true rfl) rfl rfl (x_kindOf hS ⟨e0, by unfold edA at *; omega⟩ g6 g7 ?_)
            refine r_iload_n rfl rfl ?_
            refine r_bipush rfl ?_
            refine r_isub rfl ?_
            refine r_icmp_ne rfl (by show inI (knd g.2.2.1 g.2.2.2); unfold inI; omega) (by unfold inI; omega) (fun h73 => ?_) (fun h73 => ?_)
            · skip
              refine r_iconst rfl ?_
              refine r_iadd rfl ?_
              refine r_istore_n rfl (Nat.le_of_ble_eq_true rfl) ?_
              refine r_iinc rfl rfl ?_
              refine r_goto rfl ?_
              refine ih (by omega) (by omega) _ (by omega) (by omega) ?_
              rw [cnt_s (by omega), if_neg (by simp only [decide_eq_true_eq]; rw [hkn]; exact h73)] at hs; omega
            · skip
              refine r_iconst rfl ?_
              refine r_goto rfl ?_
              refine r_iadd rfl ?_
              refine r_istore_n rfl (Nat.le_of_ble_eq_true rfl) ?_
              refine r_iinc rfl rfl ?_
              refine r_goto rfl ?_
              refine ih (by omega) (by omega) _ (by omega) (by omega) ?_
              rw [cnt_s (by omega), if_pos (by simp only [decide_eq_true_eq]; rw [hkn]; exact h73)] at hs; omega
        
        have hT3 : FM z3 f (gN a f) (gI a f) (gJ a f) (gV a f) := FM_fr hT (fun c c0 c1 => f3.1 c (by omega) (by omega) (by omega))
        have hok := edL_ok (I := gI a f) (J := gJ a f) (V := gV a f) hR.1
        refine r_iload_n rfl rfl ?_
        refine r_iconst rfl ?_
        refine r_icmp_ne rfl hu (by unfold inI; omega) (fun h37 => ?_) (fun h37 => ?_)
        · skip
          refine r_iload_n rfl rfl ?_
          refine r_iconst rfl ?_
          refine r_icmp_ne rfl hu (by unfold inI; omega) (fun h43 => ?_) (fun h43 => ?_)
          · skip
            refine r_iload_n rfl rfl ?_
            refine r_iconst rfl ?_
            refine r_icmp_ne rfl hu (by unfold inI; omega) (fun h49 => ?_) (fun h49 => ?_)
            · skip
              refine r_iconst rfl ?_
              refine r_istore_n rfl (Nat.le_of_ble_eq_true rfl) ?_
              refine r_iconst rfl ?_
              refine r_istore rfl (Nat.le_of_ble_eq_true rfl) ?_
              exact lp (by omega) (by omega) 0 (by omega) (Int.le_refl _) 0 (Int.le_refl _) (Int.le_refl _) (by rw [Int.sub_zero, Int.zero_add])
            · skip
              refine r_aload_n rfl rfl ?_
              refine r_iload_n rfl rfl ?_
              refine r_cV2 rfl (so184 hS) (Nat.le_of_ble_eq_true rfl) rfl rfl (x_isSmooth (d := d + 1) hS (by omega) hT3 hR hok hE (by omega) hC hCR (by have := crL_m (gN a f) (gI a f) (gJ a f) (gV a f); omega) (fun k => crL_pos hR.1 k) hrg2 (fun z5 z6 f5 f6 => ?_))
              refine r_if_eq rfl (by show inI (smoA a f); have hsm : smoA a f = 0 ∨ smoA a f = 1 := smoS_i; unfold inI; omega) (fun h53 => ?_) (fun h53 => ?_)
              · skip
                refine r_iconst rfl ?_
                refine r_iret rfl ?_
                rw [if_neg (fun k => k ⟨ef, p2, q2⟩), if_neg (by omega), if_neg (by omega), if_neg (by omega), if_neg (by omega), if_neg (by omega), if_pos (by omega), show smoA a f = 0 from h53] at hQ; exact hQ z5 z6 (frY_R (frY_K hz0 f3) f5) (frYL_S (frYL_K hz2 f4) f6)
              · skip
                refine r_iconst rfl ?_
                refine r_goto rfl ?_
                refine r_iret rfl ?_
                rw [if_neg (fun k => k ⟨ef, p2, q2⟩), if_neg (by omega), if_neg (by omega), if_neg (by omega), if_neg (by omega), if_neg (by omega), if_pos (by omega), show smoA a f = 1 from by have hsm : smoA a f = 0 ∨ smoA a f = 1 := smoS_i; rcases hsm with k | k; exact absurd k h53; exact k] at hQ; exact hQ z5 z6 (frY_R (frY_K hz0 f3) f5) (frYL_S (frYL_K hz2 f4) f6)
          · skip
            refine r_aload_n rfl rfl ?_
            refine r_getI rfl (so184 hS) ?_
            rw [hC.1]
            refine r_iret rfl ?_
            rw [if_neg (fun k => k ⟨ef, p2, q2⟩), if_neg (by omega), if_neg (by omega), if_neg (by omega), if_pos (by omega)] at hQ; exact hQ z3 z4 (frY_K hz0 f3) (frYL_K hz2 f4)
        · skip
          refine r_aload_n rfl rfl ?_
          refine r_getI rfl (so184 hS) ?_
          rw [hE.1]
          refine r_iret rfl ?_
          rw [if_neg (fun k => k ⟨ef, p2, q2⟩), if_neg (by omega), if_neg (by omega), if_pos (by omega)] at hQ; exact hQ z3 z4 (frY_K hz0 f3) (frYL_K hz2 f4)
      rcases (show u = 2 ∨ u = 3 ∨ u = 5 ∨ u = 7 ∨ u = 8 ∨ u = 9 by omega) with e | e | e | e | e | e <;> (subst e; exact r_tsw rfl hu rfl rst)
    · skip
      refine r_if_ne0 rfl ?_
      refine r_bipush rfl ?_
      refine r_iret rfl ?_
      rw [if_pos (fun k => p0 k.2)] at hQ; exact hQ zI zL (frY_r _) (frYL_r _)
  · skip
    refine r_if_eq0 rfl ?_
    refine r_bipush rfl ?_
    refine r_iret rfl ?_
    rw [if_pos (fun k => p0 ⟨k.1.1, by omega⟩)] at hQ; exact hQ zI zL (frY_r _) (frYL_r _)
