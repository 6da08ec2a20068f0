/-! BOTH SIDES: form, drop, term, take as an answer and a next state -/
def sFor (a : FA) : Int := if a.1 = 10 then -4 else a.1
def nFor (a : FA) : FA := if a.1 = 10 then a else addFA a 0 F0V
def sDro (a : FA) : Int := if a.1 = 0 then -3 else a.1 - 1
def nDro (a : FA) : FA := if a.1 = 0 then a else dropFA a
abbrev tmR (a : FA) (f i j v : Int) : Prop := (0 ≤ f ∧ f < a.1) ∧ (0 ≤ i ∧ i ≤ 4) ∧ (0 ≤ j ∧ j ≤ 4) ∧ (-20 ≤ v ∧ v ≤ 20)
def sTer (a : FA) (f i j v : Int) : Int := if ¬ tmR a f i j v then -2 else if gK a f ≠ 0 then -3 else if fdA a f i j = -1 ∧ gN a f = 12 then -4 else (putT a f i j v).1
def nTer (a : FA) (f i j v : Int) : FA := if ¬ tmR a f i j v then a else if gK a f ≠ 0 then a else if fdA a f i j = -1 ∧ gN a f = 12 then a else setFA a f (putT a f i j v)
def sTke (a : FA) (f i j : Int) : Int := if ¬ ((0 ≤ f ∧ f < a.1) ∧ fdA a f i j ≠ -1) then -2 else if gK a f ≠ 0 then -3 else gN a f - 1
def nTke (a : FA) (f i j : Int) : FA := if ¬ ((0 ≤ f ∧ f < a.1) ∧ fdA a f i j ≠ -1) then a else if gK a f ≠ 0 then a else setFA a f (delT a f i j)
theorem F0V_ok : FRv F0V ∧ FSv F0V := ⟨⟨Int.le_refl _, by decide, fun t t0 t1 => absurd t1 (by show ¬ t < 0; omega)⟩, fun s t s0 st t1 => absurd t1 (by show ¬ t < 0; omega)⟩
theorem FOK_nFor {a : FA} (hk : FOK a) : FOK (nFor a) := by
  unfold nFor
  have := hk.1.2
  split
  · exact hk
  · exact FOK_add hk (by omega) F0V_ok.1 F0V_ok.2 ⟨Int.le_refl _, by decide⟩ (fun _ => by decide)
theorem FOK_nDro {a : FA} (hk : FOK a) : FOK (nDro a) := by
  unfold nDro; split
  · exact hk
  · exact FOK_drop hk (by assumption)
theorem FOK_nTer {a : FA} (hk : FOK a) (f i j v : Int) : FOK (nTer a f i j v) := by
  unfold nTer
  by_cases h1 : tmR a f i j v
  · rw [if_neg (fun q => q h1)]
    by_cases h2 : gK a f ≠ 0
    · rw [if_pos h2]; exact hk
    · rw [if_neg h2]
      by_cases h3 : fdA a f i j = -1 ∧ gN a f = 12
      · rw [if_pos h3]; exact hk
      · rw [if_neg h3]; exact put_ok hk h1.1 h1.2.1 h1.2.2.1 h1.2.2.2 (by omega) (fun q1 q2 => h3 ⟨q1, q2⟩)
  · rw [if_pos h1]; exact hk
theorem FOK_nTke {a : FA} (hk : FOK a) (f i j : Int) : FOK (nTke a f i j) := by
  unfold nTke
  by_cases h1 : (0 ≤ f ∧ f < a.1) ∧ fdA a f i j ≠ -1
  · rw [if_neg (fun q => q h1)]
    by_cases h2 : gK a f ≠ 0
    · rw [if_pos h2]; exact hk
    · rw [if_neg h2]; exact del_ok hk h1.1 h1.2
  · rw [if_pos h1]; exact hk
theorem y_form2 {X : PX} {d : Nat} {S : SS} {zI zL : ZM} {Q : PQ} (hS : Sk S) {a : FA} (hA : MF zI a) (hk : FOK a) (hQ : ∀ z, frX z zI → MF z (nFor a) → Q (some (pI (sFor a))) S z zL) : wpM X (d + 1) fM_form [pR 184] S zI zL Q := by
  unfold sFor nFor at hQ
  have := hk.1.2
  refine y_form hS hA hk (fun q => ?_) (fun q z f1 f2 => ?_)
  · rw [if_pos q, if_pos q] at hQ; exact hQ zI (frX_r _) hA
  · rw [if_neg (by omega), if_neg (by omega)] at hQ; exact hQ z f1 f2
theorem y_drop2 {X : PX} {d : Nat} {S : SS} {zI zL : ZM} {Q : PQ} (hS : Sk S) {a : FA} (hA : MF zI a) (hk : FOK a) (hQ : ∀ z, frX z zI → MF z (nDro a) → Q (some (pI (sDro a))) S z zL) : wpM X (d + 1) fM_drop [pR 184] S zI zL Q := by
  unfold sDro nDro at hQ
  refine y_drop hS hA hk (fun q => ?_) (fun q z f1 f2 => ?_)
  · rw [if_pos q, if_pos q] at hQ; exact hQ zI (frX_r _) hA
  · rw [if_neg q, if_neg q] at hQ; exact hQ z f1 f2
theorem y_term2 {X : PX} {d : Nat} {S : SS} {zI zL : ZM} {Q : PQ} (hS : Sk S) {a : FA} (hA : MF zI a) (hk : FOK a) {f i j v : Int} (hf : inI f) (hi : inI i) (hj : inI j) (hv : inI v) (hQ : ∀ z, frX z zI → MF z (nTer a f i j v) → Q (some (pI (sTer a f i j v))) S z zL) : wpM X (d + 3) fM_term [pR 184, pI f, pI i, pI j, pI v] S zI zL Q := by
  unfold sTer nTer at hQ
  refine y_term hS hA hk hf hi hj hv (fun q => ?_) (fun q1 q2 q3 q4 q5 => ?_) (fun q1 q2 q3 q4 q5 q6 q7 => ?_) (fun q1 q2 q3 q4 q5 q6 z f1 f2 => ?_)
  · rw [if_pos q, if_pos q] at hQ; exact hQ zI (frX_r _) hA
  · rw [if_neg (fun k => k ⟨q1, q2, q3, q4⟩), if_pos q5, if_neg (fun k => k ⟨q1, q2, q3, q4⟩), if_pos q5] at hQ; exact hQ zI (frX_r _) hA
  · rw [if_neg (fun k => k ⟨q1, q2, q3, q4⟩), if_neg (fun k => k q5), if_pos ⟨q6, q7⟩, if_neg (fun k => k ⟨q1, q2, q3, q4⟩), if_neg (fun k => k q5), if_pos ⟨q6, q7⟩] at hQ; exact hQ zI (frX_r _) hA
  · rw [if_neg (fun k => k ⟨q1, q2, q3, q4⟩), if_neg (fun k => k q5), if_neg (fun k => q6 k.1 k.2), if_neg (fun k => k ⟨q1, q2, q3, q4⟩), if_neg (fun k => k q5), if_neg (fun k => q6 k.1 k.2)] at hQ; exact hQ z f1 f2
theorem y_take2 {X : PX} {d : Nat} {S : SS} {zI zL : ZM} {Q : PQ} (hS : Sk S) {a : FA} (hA : MF zI a) (hk : FOK a) {f i j : Int} (hf : inI f) (hi : inI i) (hj : inI j) (hQ : ∀ z, frX z zI → MF z (nTke a f i j) → Q (some (pI (sTke a f i j))) S z zL) : wpM X (d + 3) fM_take [pR 184, pI f, pI i, pI j] S zI zL Q := by
  unfold sTke nTke at hQ
  refine y_take hS hA hk hf hi hj (fun q => ?_) (fun q1 q2 q3 => ?_) (fun q1 q2 q3 z f1 f2 => ?_)
  · rw [if_pos q, if_pos q] at hQ; exact hQ zI (frX_r _) hA
  · rw [if_neg (fun k => k ⟨q1, q2⟩), if_pos q3, if_neg (fun k => k ⟨q1, q2⟩), if_pos q3] at hQ; exact hQ zI (frX_r _) hA
  · rw [if_neg (fun k => k ⟨q1, q2⟩), if_neg (fun k => k q3), if_neg (fun k => k ⟨q1, q2⟩), if_neg (fun k => k q3)] at hQ; exact hQ z f1 f2
theorem thr_fnd {n : Int} {I J : Int → Int} {a b : Int} (hn : 0 ≤ n) (hS : FS n I J) : (fnd n I J a b ≠ -1 → thr n I J a b ∧ psn n I J a b = fnd n I J a b) ∧ (fnd n I J a b = -1 → ¬ thr n I J a b) := by
  have h := fnd_in n I J a b hn
  constructor
  · intro q
    rcases h with h | ⟨h1, h2, h3, h4⟩
    · exact absurd h q
    · have e : psn n I J a b = fnd n I J a b := by
        refine psn_eq h1 (by omega) (fun k0 => ?_) hS (fun t t0 t1 k => ?_)
        · have := hS (fnd n I J a b - 1) (fnd n I J a b) (by omega) (by omega) h2
          rw [h3, h4] at this; exact this
        · by_cases e : t = fnd n I J a b
          · rw [e, h3, h4] at k; unfold lexlt at k; omega
          · have := hS (fnd n I J a b) t h1 (by omega) t1
            rw [h3, h4] at this; unfold lexlt at this k; omega
      exact ⟨⟨by rw [e]; exact h2, by rw [e]; exact h3, by rw [e]; exact h4⟩, e⟩
  · intro q k
    by_cases hp : 0 ≤ psn n I J a b
    · exact fnd_no hn q _ hp k.1 k.2
    · have := psn_sp hn hS (fnd_no hn q)
      omega
theorem c_form {X : PX} {d : Nat} {S : SS} {zI zL : ZM} {Q : PQ} (hS : Sk S) {a : FA} (hA : CF S zI zL a) (hk : FOK a) (hQ : ∀ z, frVa z zI → CF S z zL (nFor a) → Q (some (pI (sFor a))) S z zL) : wpM X (d + 3) fC_form [pR 0] S zI zL Q := by
  have hA0 := hA
  obtain ⟨⟨cF0, cF14, cF75⟩, cFf⟩ := hA
  have k10 := hk.1.2
  have k00' := hk.1.1
  obtain ⟨hfOa, -⟩ : 26 ≤ fO a.1.toNat ∧ True := ⟨by unfold fO; omega, trivial⟩
  unfold sFor nFor at hQ
  refine wp_in (C := c_C_form) (ls := [some (pR 0)]) rfl rfl rfl rfl rfl ?_
  refine r_aload_n rfl rfl ?_
  refine r_getI rfl (so0 hS) ?_
  rw [cF0]
  refine r_bipush rfl ?_
  refine r_icmp_lt rfl (by unfold inI; omega) (by unfold inI; omega) (fun h3 => ?_) (fun h3 => ?_)
  · skip
    refine r_aload_n rfl rfl ?_
    refine r_iconst rfl ?_
    refine r_cV2 rfl (so0 hS) (Nat.le_of_ble_eq_true rfl) rfl rfl (c_openForm hS hA0 hk (show a.1 < 10 by omega) (fun z hz hz0 hz10 hz3 => ?_))
    refine r_iret rfl ?_
    rw [if_neg (by omega), if_neg (by omega)] at hQ
    exact hQ z ⟨fun c hc => hz c (by omega) (by unfold fO; omega), hz0⟩ (CF_add hA0 hk (by omega) hz10 (fun c c0 c1 => hz c c0 (by omega)) ⟨⟨hz3.2.1, fun t t0 t1 => absurd t1 (by show ¬ t < 0; omega)⟩, hz3.1, Or.inl hz3.2.2, fun k => absurd (hz3.2.2.symm.trans k) (by decide)⟩)
  · skip
    refine r_bipush rfl ?_
    refine r_goto rfl ?_
    refine r_iret rfl ?_
    rw [if_pos (by omega), if_pos (by omega)] at hQ; exact hQ zI (frVa_r _) hA0
theorem c_drop {X : PX} {d : Nat} {S : SS} {zI zL : ZM} {Q : PQ} (hS : Sk S) {a : FA} (hA : CF S zI zL a) (hk : FOK a) (hQ : ∀ z, frVa z zI → CF S z zL (nDro a) → Q (some (pI (sDro a))) S z zL) : wpM X (d + 1) fC_drop [pR 0] S zI zL Q := by
  have hA0 := hA
  obtain ⟨⟨cF0, cF14, cF75⟩, cFf⟩ := hA
  have k10 := hk.1.2
  have k00' := hk.1.1
  unfold sDro nDro at hQ
  refine wp_in (C := c_C_drop) (ls := [some (pR 0)]) rfl rfl rfl rfl rfl ?_
  refine r_aload_n rfl rfl ?_
  refine r_getI rfl (so0 hS) ?_
  rw [cF0]
  refine r_if_ne rfl (by unfold inI; omega) (fun h2 => ?_) (fun h2 => ?_)
  · skip
    refine r_aload_n rfl rfl ?_
    refine r_dupR rfl ?_
    refine r_getI rfl (so0 hS) ?_
    rw [cF0]
    refine r_iconst rfl ?_
    refine r_isub rfl ?_
    refine r_putI rfl (so0 hS) ?_
    refine r_aload_n rfl rfl ?_
    refine r_getI rfl (so0 hS) ?_
    rw [zput_at]
    refine r_iret rfl ?_
    rw [if_neg h2, if_neg h2] at hQ
    exact hQ _ ⟨fun c hc => zput_row (by omega), fun k hk => zput_off hk⟩ (CF_drop hA0 zput_at (fun c hc => zput_row hc))
  · skip
    refine r_bipush rfl ?_
    refine r_iret rfl ?_
    rw [if_pos (by omega), if_pos (by omega)] at hQ; exact hQ zI (frVa_r _) hA0
set_option maxHeartbeats 1000000 in
theorem c_term {X : PX} {d : Nat} {S : SS} {zI zL : ZM} {Q : PQ} (hS : Sk S) {a : FA} (hA : CF S zI zL a) (hk : FOK a) {f i j v : Int} (hf : inI f) (hi : inI i) (hj : inI j) (hv : inI v) (hQ : ∀ z, frVa z zI → CF S z zL (nTer a f i j v) → Q (some (pI (sTer a f i j v))) S z zL) : wpM X (d + 3) fC_term [pR 0, pI f, pI i, pI j, pI v] S zI zL Q := by
  have hA0 := hA
  obtain ⟨⟨cF0, cF14, cF75⟩, cFf⟩ := hA
  have k10 := hk.1.2
  have k00' := hk.1.1
  unfold sTer nTer at hQ
  refine wp_in (C := c_C_term) (ls := [some (pR 0), some (pI f), some (pI i), some (pI j), some (pI v), none]) rfl rfl rfl rfl rfl ?_
  refine r_aload_n rfl rfl ?_
  refine r_iload_n rfl rfl ?_
  refine r_cV2 rfl (so0 hS) (Nat.le_of_ble_eq_true rfl) rfl rfl (c_exists (d := d) hS hA0 hk hf (fun p q => ?_) (fun p => ?_))
  · skip
    refine r_if_eq1 rfl ?_
    refine r_iload_n rfl rfl ?_
    refine r_iconst rfl ?_
    refine r_iconst rfl ?_
    refine r_cS3 rfl (by decide) (Nat.le_of_ble_eq_true rfl) rfl rfl (c_within (d := d + 1) hi (by unfold inI; omega) (by unfold inI; omega) (fun i0 i1 => ?_) (fun p0 => ?_))
    · skip
      refine r_if_eq1 rfl ?_
      refine r_iload_n rfl rfl ?_
      refine r_iconst rfl ?_
      refine r_iconst rfl ?_
      refine r_cS3 rfl (by decide) (Nat.le_of_ble_eq_true rfl) rfl rfl (c_within (d := d + 1) hj (by unfold inI; omega) (by unfold inI; omega) (fun j0 j1 => ?_) (fun p0 => ?_))
      · skip
        refine r_if_eq1 rfl ?_
        refine r_iload rfl rfl ?_
        refine r_bipush rfl ?_
        refine r_bipush rfl ?_
        refine r_cS3 rfl (by decide) (Nat.le_of_ble_eq_true rfl) rfl rfl (c_within (d := d + 1) hv (by unfold inI; omega) (by unfold inI; omega) (fun v0 v1 => ?_) (fun p0 => ?_))
        · skip
          refine r_if_ne1 rfl ?_
          have ef : 0 ≤ f ∧ f < a.1 := ⟨p, q⟩
          have f10 : f < 10 := by omega
          obtain ⟨rF, rG⟩ := c_F hS p f10
          have hform := sk_form hS (k := f.toNat) (by omega)
          have hfo := hform.1
          obtain ⟨hFH, hkd, hdr, hcv⟩ := cFf f p q
          obtain ⟨hR, hS2, hkb, hk12⟩ := hk.2 f p q
          have e4 := hFH.1
          have hn0 := hR.1
          have hn40 := hR.2.1
          have htm : tmR a f i j v := ⟨ef, ⟨i0, i1⟩, ⟨j0, j1⟩, v0, v1⟩
          have nn1 : ¬ ¬ tmR a f i j v := fun k => k htm
          simp only [if_neg nn1] at hQ
          have fi := fnd_in (gN a f) (gI a f) (gJ a f) i j hn0
          have tf := thr_fnd (a := i) (b := j) hn0 hS2
          obtain ⟨hb26, hb161⟩ := fO_b p f10
          refine r_aload_n rfl rfl ?_
          refine r_getR rfl (so0 hS) (sr0_0 hS) ?_
          refine r_iload_n rfl rfl ?_
          refine r_aald rfl (sw1 hS) (by decide) (by omega) (by omega) rF ?_
          refine r_astore rfl (Nat.le_of_ble_eq_true rfl) ?_
          refine r_aload rfl rfl ?_
          refine r_getI rfl hfo ?_
          rw [hkd]
          refine r_if_eq rfl (by show inI (gK a f); unfold inI; omega) (fun h28 => ?_) (fun h28 => ?_)
          · skip
            refine r_aload rfl rfl ?_
            refine r_iload_n rfl rfl ?_
            refine r_iload_n rfl rfl ?_
            refine r_cV3 rfl hfo (Nat.le_of_ble_eq_true rfl) rfl rfl (w_find (d := d + 1) hform hFH hR hi hj ?_)
            refine r_iconst rfl ?_
            refine r_icmp_ne rfl (by show inI (fnd (gN a f) (gI a f) (gJ a f) i j); unfold inI; omega) (by unfold inI; omega) (fun h36 => ?_) (fun h36 => ?_)
            · skip
              have hK0 : gK a f = 0 := h28
              have h12 := hk12 hK0
              have hno3 : ¬ (fnd (gN a f) (gI a f) (gJ a f) i j = -1 ∧ gN a f = 12) := by omega
              have nK : ¬ gK a f ≠ 0 := fun k => k hK0
              have nN : ¬ (fdA a f i j = -1 ∧ gN a f = 12) := hno3
              simp only [if_neg nK, if_neg nN] at hQ
              refine r_aload rfl rfl ?_
              refine r_iload_n rfl rfl ?_
              refine r_iload_n rfl rfl ?_
              refine r_iload rfl rfl ?_
              refine r_cV4 rfl hfo (Nat.le_of_ble_eq_true rfl) rfl rfl (w_put hform hFH hR ⟨i0, by omega⟩ ⟨j0, by omega⟩ (Or.inr (by omega)) (fun z hz => ?_))
              have hfn : FH z (fO f.toNat) (putT a f i j v).1 (putT a f i j v).2.1 (putT a f i j v).2.2.1 (putT a f i j v).2.2.2 := by
                unfold putT
                by_cases e : fdA a f i j ≠ -1
                · rw [if_pos e]
                  obtain ⟨t1, t2⟩ := tf.1 e
                  have := hz.2.2.2.1 t1
                  rw [t2] at this
                  exact this
                · rw [if_neg e]
                  exact hz.2.2.2.2 (tf.2 (Classical.not_not.mp e))
              refine r_aload rfl rfl ?_
              refine r_getI rfl hfo ?_
              rw [hfn.1]
              refine r_iret rfl ?_
              exact hQ z ⟨fun c hc => hz.1 c (by omega) (by omega) (by omega) (by omega), fun k _ => by rw [hz.1 0 (by omega) (by omega) (by omega) (by omega)]⟩ (CF_set hA0 hk ef (fun c hc => hz.1 c (by omega) (by omega) (by omega) (by omega)) ⟨hfn, hz.2.1.trans hkd, Or.inl hz.2.2.1, fun k => absurd (hz.2.2.1.symm.trans k) (by decide)⟩)
            · skip
              refine r_aload rfl rfl ?_
              refine r_getI rfl hfo ?_
              rw [e4]
              refine r_bipush rfl ?_
              refine r_icmp_lt rfl (by unfold inI; omega) (by unfold inI; omega) (fun h40 => ?_) (fun h40 => ?_)
              · skip
                have hK0 : gK a f = 0 := h28
                have h12 := hk12 hK0
                have hno3 : ¬ (fnd (gN a f) (gI a f) (gJ a f) i j = -1 ∧ gN a f = 12) := by omega
                have nK : ¬ gK a f ≠ 0 := fun k => k hK0
                have nN : ¬ (fdA a f i j = -1 ∧ gN a f = 12) := hno3
                simp only [if_neg nK, if_neg nN] at hQ
                refine r_aload rfl rfl ?_
                refine r_iload_n rfl rfl ?_
                refine r_iload_n rfl rfl ?_
                refine r_iload rfl rfl ?_
                refine r_cV4 rfl hfo (Nat.le_of_ble_eq_true rfl) rfl rfl (w_put hform hFH hR ⟨i0, by omega⟩ ⟨j0, by omega⟩ (Or.inr (by omega)) (fun z hz => ?_))
                have hfn : FH z (fO f.toNat) (putT a f i j v).1 (putT a f i j v).2.1 (putT a f i j v).2.2.1 (putT a f i j v).2.2.2 := by
                  unfold putT
                  by_cases e : fdA a f i j ≠ -1
                  · rw [if_pos e]
                    obtain ⟨t1, t2⟩ := tf.1 e
                    have := hz.2.2.2.1 t1
                    rw [t2] at this
                    exact this
                  · rw [if_neg e]
                    exact hz.2.2.2.2 (tf.2 (Classical.not_not.mp e))
                refine r_aload rfl rfl ?_
                refine r_getI rfl hfo ?_
                rw [hfn.1]
                refine r_iret rfl ?_
                exact hQ z ⟨fun c hc => hz.1 c (by omega) (by omega) (by omega) (by omega), fun k _ => by rw [hz.1 0 (by omega) (by omega) (by omega) (by omega)]⟩ (CF_set hA0 hk ef (fun c hc => hz.1 c (by omega) (by omega) (by omega) (by omega)) ⟨hfn, hz.2.1.trans hkd, Or.inl hz.2.2.1, fun k => absurd (hz.2.2.1.symm.trans k) (by decide)⟩)
              · skip
                refine r_bipush rfl ?_
                refine r_iret rfl ?_
                have nK : ¬ gK a f ≠ 0 := fun k => k h28
                have yN : fdA a f i j = -1 ∧ gN a f = 12 := ⟨h36, by have := hk12 h28; omega⟩
                simp only [if_neg nK, if_pos yN] at hQ
                exact hQ zI (frVa_r _) hA0
          · skip
            refine r_bipush rfl ?_
            refine r_iret rfl ?_
            have yK : gK a f ≠ 0 := h28
            simp only [if_pos yK] at hQ
            exact hQ zI (frVa_r _) hA0
        · skip
          refine r_if_ne0 rfl ?_
          refine r_bipush rfl ?_
          refine r_iret rfl ?_
          rw [if_pos (fun k => p0 k.2.2.2), if_pos (fun k => p0 k.2.2.2)] at hQ; exact hQ zI (frVa_r _) hA0
      · skip
        refine r_if_eq0 rfl ?_
        refine r_bipush rfl ?_
        refine r_iret rfl ?_
        rw [if_pos (fun k => p0 k.2.2.1), if_pos (fun k => p0 k.2.2.1)] at hQ; exact hQ zI (frVa_r _) hA0
    · skip
      refine r_if_eq0 rfl ?_
      refine r_bipush rfl ?_
      refine r_iret rfl ?_
      rw [if_pos (fun k => p0 k.2.1), if_pos (fun k => p0 k.2.1)] at hQ; exact hQ zI (frVa_r _) hA0
  · skip
    refine r_if_eq0 rfl ?_
    refine r_bipush rfl ?_
    refine r_iret rfl ?_
    rw [if_pos (fun k => p k.1), if_pos (fun k => p k.1)] at hQ; exact hQ zI (frVa_r _) hA0
set_option maxHeartbeats 1000000 in
theorem c_take {X : PX} {d : Nat} {S : SS} {zI zL : ZM} {Q : PQ} (hS : Sk S) {a : FA} (hA : CF S zI zL a) (hk : FOK a) {f i j : Int} (hf : inI f) (hi : inI i) (hj : inI j) (hQ : ∀ z, frVa z zI → CF S z zL (nTke a f i j) → Q (some (pI (sTke a f i j))) S z zL) : wpM X (d + 4) fC_take [pR 0, pI f, pI i, pI j] S zI zL Q := by
  have hA0 := hA
  obtain ⟨⟨cF0, cF14, cF75⟩, cFf⟩ := hA
  have k10 := hk.1.2
  have k00' := hk.1.1
  unfold sTke nTke at hQ
  have rest : ∀ k, ((0 ≤ f ∧ f < a.1) ∧ k = fdA a f i j) ∨ (¬ (0 ≤ f ∧ f < a.1) ∧ k = -1) → Run X (d + 3) c_C_take 5 [some (pR 0), some (pI f), some (pI i), some (pI j), none, none] [pI k] S zI zL 0 0 Q := by
    intro k hkk
    have bk : -1 ≤ k ∧ k ≤ 40 := by
      rcases hkk with ⟨q1, q2⟩ | ⟨-, q⟩
      · obtain ⟨hR, -, -⟩ := hk.2 f q1.1 q1.2
        have h1 := fnd_in (gN a f) (gI a f) (gJ a f) i j hR.1
        have h2 := hR.2.1
        have q2 : k = fnd (gN a f) (gI a f) (gJ a f) i j := q2
        omega
      · omega
    refine r_istore rfl (Nat.le_of_ble_eq_true rfl) ?_
    refine r_iload rfl rfl ?_
    refine r_iconst rfl ?_
    refine r_icmp_ne rfl (by unfold inI; omega) (by unfold inI; omega) (fun h8 => ?_) (fun h8 => ?_)
    · skip
      obtain ⟨⟨p, q⟩, ekk⟩ : (0 ≤ f ∧ f < a.1) ∧ k = fdA a f i j := by
        rcases hkk with q | ⟨-, q⟩
        · exact q
        · omega
      have ef : 0 ≤ f ∧ f < a.1 := ⟨p, q⟩
      have f10 : f < 10 := by omega
      obtain ⟨rF, rG⟩ := c_F hS p f10
      have hform := sk_form hS (k := f.toNat) (by omega)
      have hfo := hform.1
      obtain ⟨hFH, hkd, hdr, hcv⟩ := cFf f p q
      obtain ⟨hR, hS2, hkb, hk12⟩ := hk.2 f p q
      have e4 := hFH.1
      have hn0 := hR.1
      have hn40 := hR.2.1
      have hne : fdA a f i j ≠ -1 := by rw [← ekk]; exact h8
      have nn1 : ¬ ¬ ((0 ≤ f ∧ f < a.1) ∧ fdA a f i j ≠ -1) := fun k => k ⟨ef, hne⟩
      simp only [if_neg nn1] at hQ
      have fi := fnd_in (gN a f) (gI a f) (gJ a f) i j hn0
      have ekk2 : k = fnd (gN a f) (gI a f) (gJ a f) i j := ekk
      rw [← ekk2] at fi
      obtain ⟨hb26, hb161⟩ := fO_b p f10
      refine r_aload_n rfl rfl ?_
      refine r_getR rfl (so0 hS) (sr0_0 hS) ?_
      refine r_iload_n rfl rfl ?_
      refine r_aald rfl (sw1 hS) (by decide) (by omega) (by omega) rF ?_
      refine r_astore rfl (Nat.le_of_ble_eq_true rfl) ?_
      refine r_aload rfl rfl ?_
      refine r_getI rfl hfo ?_
      rw [hkd]
      refine r_if_eq rfl (by show inI (gK a f); unfold inI; omega) (fun h18 => ?_) (fun h18 => ?_)
      · skip
        refine r_aload rfl rfl ?_
        refine r_iload rfl rfl ?_
        refine r_cV2 rfl hfo (Nat.le_of_ble_eq_true rfl) rfl rfl (w_remove hform hFH hR (k := k) (by omega) (by omega) (fun z hz => ?_))
        have hfn := hz.2.2.2
        rw [ekk] at hfn
        refine r_aload rfl rfl ?_
        refine r_getI rfl hfo ?_
        rw [hfn.1]
        refine r_iret rfl ?_
        have nK : ¬ gK a f ≠ 0 := fun k => k h18
        simp only [if_neg nK] at hQ
        exact hQ z ⟨fun c hc => hz.1 c (by omega) (by omega) (by omega) (by omega), fun k _ => by rw [hz.1 0 (by omega) (by omega) (by omega) (by omega)]⟩ (CF_set (T := delT a f i j) hA0 hk ef (fun c hc => hz.1 c (by omega) (by omega) (by omega) (by omega)) ⟨hfn, hz.2.1.trans hkd, Or.inl hz.2.2.1, fun k => absurd (hz.2.2.1.symm.trans k) (by decide)⟩)
      · skip
        refine r_bipush rfl ?_
        refine r_iret rfl ?_
        have yK : gK a f ≠ 0 := h18
        simp only [if_pos yK] at hQ
        exact hQ zI (frVa_r _) hA0
    · skip
      refine r_bipush rfl ?_
      refine r_iret rfl ?_
      rw [if_pos (fun q => by rcases hkk with ⟨-, q2⟩ | ⟨q1, -⟩; exact q.2 (by rw [← q2]; exact h8); exact q1 q.1), if_pos (fun q => by rcases hkk with ⟨-, q2⟩ | ⟨q1, -⟩; exact q.2 (by rw [← q2]; exact h8); exact q1 q.1)] at hQ
      exact hQ zI (frVa_r _) hA0
  refine wp_in (C := c_C_take) (ls := [some (pR 0), some (pI f), some (pI i), some (pI j), none, none]) rfl rfl rfl rfl rfl ?_
  refine r_aload_n rfl rfl ?_
  refine r_iload_n rfl rfl ?_
  refine r_iload_n rfl rfl ?_
  refine r_iload_n rfl rfl ?_
  refine r_cV4 rfl (so0 hS) (Nat.le_of_ble_eq_true rfl) rfl rfl (c_findTerm hS hA0 hk hf hi hj (fun p q => ?_) (fun p => ?_))
  · exact rest _ (Or.inl ⟨⟨p, q⟩, rfl⟩)
  · exact rest _ (Or.inr ⟨p, rfl⟩)
