/-! THE REFERENCE: terms come and go -/
theorem lex_tri {a b c e : Int} (h : ¬ lexlt a b c e) (hn : ¬ (a = c ∧ b = e)) : lexlt c e a b := by unfold lexlt at *; omega
theorem lex_tr {a b c e g k : Int} (h : lexlt a b c e) (h2 : lexlt c e g k) : lexlt a b g k := by unfold lexlt at *; omega
/-- where a place that isn't there would stand -/
theorem psn_sp {n : Int} {I J : Int → Int} {a b : Int} (hn : 0 ≤ n) (hS : FS n I J) (hno : ∀ t, 0 ≤ t → t < n → ¬ (I t = a ∧ J t = b)) : (0 ≤ psn n I J a b ∧ psn n I J a b ≤ n) ∧ (∀ t, 0 ≤ t → t < psn n I J a b → lexlt (I t) (J t) a b) ∧ ∀ t, psn n I J a b ≤ t → t < n → lexlt a b (I t) (J t) := by
  obtain ⟨q1, q2, q3, q4⟩ := fstN_spec (fun t => !lexb (I t) (J t) a b) n.toNat 0
  refine ⟨⟨q1, by unfold psn; omega⟩, fun t t0 t1 => nlex_t.mp (q4 t t0 t1), fun t t0 t1 => ?_⟩
  have h1 : psn n I J a b < n := by omega
  have h2 := nlex_f.mp (q3 (by unfold psn at h1; omega))
  have h3 : lexlt a b (I (psn n I J a b)) (J (psn n I J a b)) := lex_tri h2 (hno _ q1 h1)
  by_cases e : t = psn n I J a b
  · rw [e]; exact h3
  · exact lex_tr h3 (hS _ t q1 (by omega) t1)
theorem FS_ins {n : Int} {I J : Int → Int} {a b k : Int} (hS : FS n I J) (h0 : 0 ≤ k) (h1 : k ≤ n) (hlo : ∀ t, 0 ≤ t → t < k → lexlt (I t) (J t) a b) (hhi : ∀ t, k ≤ t → t < n → lexlt a b (I t) (J t)) : FS (n + 1) (insF I k a) (insF J k b) := by
  intro s t s0 st tn
  unfold insF
  rcases Int.lt_trichotomy s k with e1 | e1 | e1
  · rw [if_pos e1, if_pos e1]
    rcases Int.lt_trichotomy t k with e2 | e2 | e2
    · rw [if_pos e2, if_pos e2]; exact hS s t s0 st (by omega)
    · rw [if_neg (by omega), if_pos e2, if_neg (by omega), if_pos e2]; exact hlo s s0 e1
    · rw [if_neg (by omega), if_neg (by omega), if_neg (by omega), if_neg (by omega)]
      exact lex_tr (hlo s s0 e1) (hhi (t - 1) (by omega) (by omega))
  · rw [if_neg (by omega), if_pos e1, if_neg (by omega), if_pos e1, if_neg (by omega), if_neg (by omega), if_neg (by omega), if_neg (by omega)]
    exact hhi (t - 1) (by omega) (by omega)
  · rw [if_neg (by omega), if_neg (by omega), if_neg (by omega), if_neg (by omega), if_neg (by omega), if_neg (by omega), if_neg (by omega), if_neg (by omega)]
    exact hS (s - 1) (t - 1) (by omega) (by omega) (by omega)
theorem FR_ins {n : Int} {I J V : Int → Int} {a b v k : Int} (hR : FR n I J V) (hn : n < 40) (h0 : 0 ≤ k) (h1 : k ≤ n) (ha : 0 ≤ a ∧ a ≤ 8) (hb : 0 ≤ b ∧ b ≤ 8) (hv : -200 ≤ v ∧ v ≤ 200) : FR (n + 1) (insF I k a) (insF J k b) (insF V k v) := by
  refine ⟨by have := hR.1; omega, by omega, fun t t0 t1 => ?_⟩
  unfold insF
  rcases Int.lt_trichotomy t k with e1 | e1 | e1
  · rw [if_pos e1, if_pos e1, if_pos e1]; exact hR.2.2 t t0 (by omega)
  · rw [if_neg (by omega), if_pos e1, if_neg (by omega), if_pos e1, if_neg (by omega), if_pos e1]; omega
  · rw [if_neg (by omega), if_neg (by omega), if_neg (by omega), if_neg (by omega), if_neg (by omega), if_neg (by omega)]; exact hR.2.2 (t - 1) (by omega) (by omega)
theorem FS_del {n : Int} {I J : Int → Int} {k : Int} (hS : FS n I J) (h0 : 0 ≤ k) (h1 : k < n) : FS (n - 1) (delF I k) (delF J k) := by
  intro s t s0 st tn
  unfold delF
  by_cases e1 : s < k
  · rw [if_pos e1, if_pos e1]
    by_cases e2 : t < k
    · rw [if_pos e2, if_pos e2]; exact hS s t s0 st (by omega)
    · rw [if_neg e2, if_neg e2]; exact hS s (t + 1) s0 (by omega) (by omega)
  · rw [if_neg e1, if_neg e1, if_neg (by omega), if_neg (by omega)]; exact hS (s + 1) (t + 1) (by omega) (by omega) (by omega)
theorem FR_del {n : Int} {I J V : Int → Int} {k : Int} (hR : FR n I J V) (h0 : 0 ≤ k) (h1 : k < n) : FR (n - 1) (delF I k) (delF J k) (delF V k) := by
  refine ⟨by omega, by have := hR.2.1; omega, fun t t0 t1 => ?_⟩
  unfold delF
  by_cases e1 : t < k
  · rw [if_pos e1, if_pos e1, if_pos e1]; exact hR.2.2 t t0 (by omega)
  · rw [if_neg e1, if_neg e1, if_neg e1]; exact hR.2.2 (t + 1) (by omega) (by omega)
theorem FR_upd {n : Int} {I J V : Int → Int} {k v : Int} (hR : FR n I J V) (hv : -200 ≤ v ∧ v ≤ 200) : FR n I J (updF V k v) := by
  refine ⟨hR.1, hR.2.1, fun t t0 t1 => ?_⟩
  have := hR.2.2 t t0 t1
  unfold updF
  split <;> omega
def setFA (a : FA) (f : Int) (T : FV) : FA := (a.1, gK a, updF (gN a) f T.1, fun g => if g = f then T.2.1 else gI a g, fun g => if g = f then T.2.2.1 else gJ a g, fun g => if g = f then T.2.2.2 else gV a g)
theorem FOK_set {a : FA} {f : Int} {T : FV} (h : FOK a) (hf : 0 ≤ f ∧ f < a.1) (hR : FRv T) (hS : FSv T) (h12 : gK a f = 0 → T.1 ≤ 12) : FOK (setFA a f T) := by
  refine ⟨h.1, fun g g0 g1 => ?_⟩
  have g1 : g < a.1 := g1
  obtain ⟨a1, a2, a3, a4⟩ := h.2 g g0 g1
  show FR (updF (gN a) f T.1 g) (if g = f then T.2.1 else gI a g) (if g = f then T.2.2.1 else gJ a g) (if g = f then T.2.2.2 else gV a g) ∧ FS (updF (gN a) f T.1 g) (if g = f then T.2.1 else gI a g) (if g = f then T.2.2.1 else gJ a g) ∧ (0 ≤ gK a g ∧ gK a g ≤ 3) ∧ (gK a g = 0 → updF (gN a) f T.1 g ≤ 12)
  unfold updF
  by_cases e : g = f
  · rw [if_pos e, if_pos e, if_pos e, if_pos e]; subst e; exact ⟨hR, hS, a3, h12⟩
  · rw [if_neg e, if_neg e, if_neg e, if_neg e]; exact ⟨a1, a2, a3, a4⟩
theorem MF_set {z z' : ZM} {a : FA} {f : Int} {T : FV} (h : MF z a) (hk : FOK a) (hz : frF f z' z) (hT : FMv z' f T) : MF z' (setFA a f T) := by
  refine ⟨by rw [hz.1 184 (by decide) (by decide) (by decide) (by decide)]; exact h.1, fun g g0 g1 => ?_⟩
  have g1 : g < a.1 := g1
  show FM z' g (updF (gN a) f T.1 g) (if g = f then T.2.1 else gI a g) (if g = f then T.2.2.1 else gJ a g) (if g = f then T.2.2.2 else gV a g) ∧ z' 185 g = gK a g
  obtain ⟨a1, a2⟩ := h.2 g g0 g1
  refine ⟨?_, by rw [hz.1 185 (by decide) (by decide) (by decide) (by decide)]; exact a2⟩
  unfold updF
  by_cases e : g = f
  · rw [if_pos e, if_pos e, if_pos e, if_pos e, e]; exact hT
  · rw [if_neg e, if_neg e, if_neg e, if_neg e]; exact FM_frF a1 (hk.2 g g0 g1).1.2.1 e hz
theorem frX_F {z' z : ZM} {f : Int} (h : frF f z' z) : frX z' z := ⟨fun c a => h.1 c (by omega) (by omega) (by omega) (by omega), fun k _ _ => by rw [h.1 184 (by decide) (by decide) (by decide) (by decide)]⟩
theorem fnd_no {n : Int} {I J : Int → Int} {a b : Int} (hn : 0 ≤ n) (h : fnd n I J a b = -1) : ∀ t, 0 ≤ t → t < n → ¬ (I t = a ∧ J t = b) := fun t t0 t1 q => by
  have := srch_no (fun t => decide (I t = a ∧ J t = b)) n.toNat 0 h (Int.le_refl _) t t0 (by omega)
  rw [decide_eq_false_iff_not] at this
  exact this q
abbrev fdA (a : FA) (f i j : Int) : Int := fnd (gN a f) (gI a f) (gJ a f) i j
def putT (a : FA) (f i j v : Int) : FV := if fdA a f i j ≠ -1 then (gN a f, gI a f, gJ a f, updF (gV a f) (fdA a f i j) v) else (gN a f + 1, insF (gI a f) (psn (gN a f) (gI a f) (gJ a f) i j) i, insF (gJ a f) (psn (gN a f) (gI a f) (gJ a f) i j) j, insF (gV a f) (psn (gN a f) (gI a f) (gJ a f) i j) v)
def delT (a : FA) (f i j : Int) : FV := (gN a f - 1, delF (gI a f) (fdA a f i j), delF (gJ a f) (fdA a f i j), delF (gV a f) (fdA a f i j))
theorem put_ok {a : FA} {f i j v : Int} (hk : FOK a) (hf : 0 ≤ f ∧ f < a.1) (hi : 0 ≤ i ∧ i ≤ 4) (hj : 0 ≤ j ∧ j ≤ 4) (hv : -20 ≤ v ∧ v ≤ 20) (hK : gK a f = 0) (h12 : fdA a f i j = -1 → gN a f ≠ 12) : FOK (setFA a f (putT a f i j v)) := by
  obtain ⟨hR, hS, -, hN⟩ := hk.2 f hf.1 hf.2
  have hN := hN hK
  by_cases e : fdA a f i j = -1
  · have hno := fnd_no hR.1 e
    obtain ⟨p1, p2, p3⟩ := psn_sp hR.1 hS hno
    have h12 := h12 e
    refine FOK_set hk hf ?_ ?_ (fun _ => ?_)
    · unfold putT; rw [if_neg (fun q => q e)]; exact FR_ins hR (by omega) p1.1 p1.2 (by omega) (by omega) (by omega)
    · unfold putT; rw [if_neg (fun q => q e)]; exact FS_ins hS p1.1 p1.2 p2 p3
    · unfold putT; rw [if_neg (fun q => q e)]; show gN a f + 1 ≤ 12; omega
  · refine FOK_set hk hf ?_ ?_ (fun _ => ?_)
    · unfold putT; rw [if_pos e]; exact FR_upd hR (by omega)
    · unfold putT; rw [if_pos e]; exact hS
    · unfold putT; rw [if_pos e]; exact hN
theorem del_ok {a : FA} {f i j : Int} (hk : FOK a) (hf : 0 ≤ f ∧ f < a.1) (h : fdA a f i j ≠ -1) : FOK (setFA a f (delT a f i j)) := by
  obtain ⟨hR, hS, -, hN⟩ := hk.2 f hf.1 hf.2
  have fi := fnd_in (gN a f) (gI a f) (gJ a f) i j hR.1
  have fb : 0 ≤ fdA a f i j ∧ fdA a f i j < gN a f := by
    rcases fi with q | ⟨q1, q2, -⟩
    · exact absurd q h
    · exact ⟨q1, q2⟩
  exact FOK_set hk hf (FR_del hR fb.1 fb.2) (FS_del hS fb.1 fb.2) (fun q => by have := hN q; show gN a f - 1 ≤ 12; omega)
set_option maxHeartbeats 1000000 in
theorem y_term {X : PX} {d : Nat} {S : SS} {zI zL : ZM} {Q : PQ} (hS : Sk S) {a : FA} (hA : MF zI a) (hk : FOK a) {f i j v : Int} (hf : inI f) (hi : inI i) (hj : inI j) (hv : inI v) (hQ0 : ¬ ((0 ≤ f ∧ f < a.1) ∧ (0 ≤ i ∧ i ≤ 4) ∧ (0 ≤ j ∧ j ≤ 4) ∧ (-20 ≤ v ∧ v ≤ 20)) → Q (some (pI (-2))) S zI zL) (hQ1 : (0 ≤ f ∧ f < a.1) → (0 ≤ i ∧ i ≤ 4) → (0 ≤ j ∧ j ≤ 4) → (-20 ≤ v ∧ v ≤ 20) → gK a f ≠ 0 → Q (some (pI (-3))) S zI zL) (hQ2 : (0 ≤ f ∧ f < a.1) → (0 ≤ i ∧ i ≤ 4) → (0 ≤ j ∧ j ≤ 4) → (-20 ≤ v ∧ v ≤ 20) → gK a f = 0 → fdA a f i j = -1 → gN a f = 12 → Q (some (pI (-4))) S zI zL) (hQ3 : (0 ≤ f ∧ f < a.1) → (0 ≤ i ∧ i ≤ 4) → (0 ≤ j ∧ j ≤ 4) → (-20 ≤ v ∧ v ≤ 20) → gK a f = 0 → (fdA a f i j = -1 → gN a f ≠ 12) → ∀ z, frX z zI → MF z (setFA a f (putT a f i j v)) → Q (some (pI (putT a f i j v).1)) S z zL) : wpM X (d + 3) fM_term [pR 184, pI f, pI i, pI j, pI v] S zI zL Q := by
  have hk0 := hk
  have hX := MF_x hA hk
  have hF0 := hA.1
  obtain ⟨kb, hkf⟩ := hk
  have hget : ∀ f, 0 ≤ f → f < zI 184 0 → (FM zI f (gN a f) (gI a f) (gJ a f) (gV a f) ∧ zI 185 f = gK a f) ∧ FR (gN a f) (gI a f) (gJ a f) (gV a f) ∧ FS (gN a f) (gI a f) (gJ a f) ∧ (0 ≤ gK a f ∧ gK a f ≤ 3) ∧ (gK a f = 0 → gN a f ≤ 12) := fun f f0 f1 => ⟨hA.2 f f0 (by omega), hkf f f0 (by omega)⟩
  refine wp_in (C := c_M_term) (ls := [some (pR 184), some (pI f), some (pI i), some (pI j), some (pI v), none]) rfl rfl rfl rfl rfl ?_
  refine r_aload_n rfl rfl ?_
  refine r_iload_n rfl rfl ?_
  refine r_cV2 rfl (so184 hS) (Nat.le_of_ble_eq_true rfl) rfl rfl (x_is hS hf hX (fun p q => ?_) (fun p0 => ?_))
  · skip
    refine r_if_eq1 rfl ?_
    refine r_aload_n rfl rfl ?_
    refine r_iload_n rfl rfl ?_
    refine r_iconst rfl ?_
    refine r_iconst rfl ?_
    refine r_cV4 rfl (so184 hS) (Nat.le_of_ble_eq_true rfl) rfl rfl (x_in hS hi (by unfold inI; omega) (by unfold inI; omega) (fun p2 q2 => ?_) (fun p0 => ?_))
    · skip
      refine r_if_eq1 rfl ?_
      refine r_aload_n rfl rfl ?_
      refine r_iload_n rfl rfl ?_
      refine r_iconst rfl ?_
      refine r_iconst rfl ?_
      refine r_cV4 rfl (so184 hS) (Nat.le_of_ble_eq_true rfl) rfl rfl (x_in hS hj (by unfold inI; omega) (by unfold inI; omega) (fun p3 q3 => ?_) (fun p0 => ?_))
      · skip
        refine r_if_eq1 rfl ?_
        refine r_aload_n rfl rfl ?_
        refine r_iload rfl rfl ?_
        refine r_bipush rfl ?_
        refine r_bipush rfl ?_
        refine r_cV4 rfl (so184 hS) (Nat.le_of_ble_eq_true rfl) rfl rfl (x_in hS hv (by unfold inI; omega) (by unfold inI; omega) (fun p4 q4 => ?_) (fun p0 => ?_))
        · skip
          refine r_if_ne1 rfl ?_
          obtain ⟨⟨hT, hK⟩, hR, hS2, hKb, h12⟩ := hget f p q
          have ef : 0 ≤ f ∧ f < a.1 := ⟨p, by omega⟩
          have hn40 := hR.2.1
          have hn0 := hR.1
          have e4 := hT.1
          have fi := fnd_in (gN a f) (gI a f) (gJ a f) i j hR.1
          refine r_aload_n rfl rfl ?_
          refine r_getR rfl (so184 hS) (sr184_1 hS) ?_
          refine r_iload_n rfl rfl ?_
          refine r_iald rfl (sw185 hS) (by omega) (by omega) ?_
          rw [hK]
          refine r_if_eq rfl (by unfold inI; omega) (fun h28 => ?_) (fun h28 => ?_)
          · skip
            refine r_aload_n rfl rfl ?_
            refine r_iload_n rfl rfl ?_
            refine r_iload_n rfl rfl ?_
            refine r_iload_n rfl rfl ?_
            refine r_cV4 rfl (so184 hS) (Nat.le_of_ble_eq_true rfl) rfl rfl (x_termAt hS (by omega) hT hR hi hj ?_)
            obtain ⟨k, hkd⟩ : ∃ k, k = fnd (gN a f) (gI a f) (gJ a f) i j := ⟨_, rfl⟩
            rw [← hkd] at fi ⊢
            refine r_istore rfl (Nat.le_of_ble_eq_true rfl) ?_
            refine r_iload rfl rfl ?_
            refine r_if_lt rfl (by unfold inI; omega) (fun h38 => ?_) (fun h38 => ?_)
            · skip
              refine r_aload_n rfl rfl ?_
              refine r_getR rfl (so184 hS) (sr184_2 hS) ?_
              refine r_iload_n rfl rfl ?_
              refine r_iald rfl (sw186 hS) (by omega) (by omega) ?_
              rw [e4]
              refine r_bipush rfl ?_
              refine r_icmp_ne rfl (by unfold inI; omega) (by unfold inI; omega) (fun h58 => ?_) (fun h58 => ?_)
              · skip
                refine r_aload_n rfl rfl ?_
                refine r_iload_n rfl rfl ?_
                refine r_iload_n rfl rfl ?_
                refine r_iload_n rfl rfl ?_
                refine r_iload rfl rfl ?_
                refine r_cV5 rfl (so184 hS) (Nat.le_of_ble_eq_true rfl) rfl rfl (x_insert (d := d + 1) hS (by omega) hT hR hS2 (by have := h12 (by omega); omega) hi hj (fnd_no hR.1 (by omega)) (fun z2 f2 hM2 => ?_))
                refine r_aload_n rfl rfl ?_
                refine r_getR rfl (so184 hS) (sr184_2 hS) ?_
                refine r_iload_n rfl rfl ?_
                refine r_iald rfl (sw186 hS) (by omega) (by omega) ?_
                rw [hM2.1]
                refine r_iret rfl ?_
                have hfd : fdA a f i j = -1 := by show fnd _ _ _ i j = -1; omega
                have hp : putT a f i j v = (gN a f + 1, insF (gI a f) (psn (gN a f) (gI a f) (gJ a f) i j) i, insF (gJ a f) (psn (gN a f) (gI a f) (gJ a f) i j) j, insF (gV a f) (psn (gN a f) (gI a f) (gJ a f) i j) v) := by unfold putT; rw [if_neg (fun q => q hfd)]
                have h3 := hQ3 ef ⟨p2, q2⟩ ⟨p3, q3⟩ ⟨p4, q4⟩ (by omega) (fun _ => by omega)
                rw [hp] at h3
                exact h3 z2 (frX_F f2) (MF_set hA hk0 f2 hM2)
              · skip
                refine r_bipush rfl ?_
                refine r_iret rfl ?_
                exact hQ2 ef ⟨p2, q2⟩ ⟨p3, q3⟩ ⟨p4, q4⟩ (by omega) (by show fnd _ _ _ i j = -1; omega) (by omega)
            · skip
              refine r_aload_n rfl rfl ?_
              refine r_getR rfl (so184 hS) (sr184_5 hS) ?_
              refine r_bipush rfl ?_
              refine r_iload_n rfl rfl ?_
              refine r_imul rfl ?_
              refine r_iload rfl rfl ?_
              refine r_iadd rfl ?_
              refine r_iload rfl rfl ?_
              refine r_iast rfl (sw189 hS) (by omega) (by omega) ?_
              refine r_aload_n rfl rfl ?_
              refine r_getR rfl (so184 hS) (sr184_2 hS) ?_
              refine r_iload_n rfl rfl ?_
              refine r_iald rfl (sw186 hS) (by omega) (by omega) ?_
              rw [zput_row (show (186 : Nat) ≠ 189 by decide), e4]
              refine r_iret rfl ?_
              have hfd : fdA a f i j ≠ -1 := by show fnd _ _ _ i j ≠ -1; omega
              have hp : putT a f i j v = (gN a f, gI a f, gJ a f, updF (gV a f) k v) := by unfold putT; rw [if_pos hfd, hkd]
              have h3 := hQ3 ef ⟨p2, q2⟩ ⟨p3, q3⟩ ⟨p4, q4⟩ (by omega) (fun q => absurd q hfd)
              rw [hp] at h3
              have hfr : frF f (zput zI 189 (40 * f + k) v) zI := ⟨fun c c0 c1 c2 c3 => zput_row c3, fun g hg => by rw [zput_row (by decide)], fun g hg => by rw [zput_row (by decide), zput_row (by decide), zput_off (by omega)]; exact ⟨rfl, rfl, rfl⟩⟩
              refine h3 _ (frX_F hfr) (MF_set hA hk0 hfr ⟨by rw [zput_row (by decide)]; exact e4, fun t t0 t1 => ?_⟩)
              have t1 : t < gN a f := t1
              obtain ⟨g1, g2, g3⟩ := hT.2 t t0 t1
              refine ⟨by rw [zput_row (by decide)]; exact g1, by rw [zput_row (by decide)]; exact g2, ?_⟩
              show _ = updF (gV a f) k v t
              unfold updF
              by_cases e : t = k
              · rw [if_pos e, e, zput_at]
              · rw [if_neg e, zput_off (by omega)]; exact g3
          · skip
            refine r_bipush rfl ?_
            refine r_iret rfl ?_
            exact hQ1 ef ⟨p2, q2⟩ ⟨p3, q3⟩ ⟨p4, q4⟩ (by omega)
        · skip
          refine r_if_ne0 rfl ?_
          refine r_bipush rfl ?_
          refine r_iret rfl ?_
          exact hQ0 (fun k => p0 k.2.2.2)
      · skip
        refine r_if_eq0 rfl ?_
        refine r_bipush rfl ?_
        refine r_iret rfl ?_
        exact hQ0 (fun k => p0 k.2.2.1)
    · skip
      refine r_if_eq0 rfl ?_
      refine r_bipush rfl ?_
      refine r_iret rfl ?_
      exact hQ0 (fun k => p0 k.2.1)
  · skip
    refine r_if_eq0 rfl ?_
    refine r_bipush rfl ?_
    refine r_iret rfl ?_
    exact hQ0 (fun k => p0 ⟨k.1.1, by omega⟩)
def deM (z : ZM) (f n k u : Int) (I J V : Int → Int) : Prop := z 186 f = n - 1 ∧ ∀ t, 0 ≤ t → (t < u → t < n - 1 → z 187 (40 * f + t) = delF I k t ∧ z 188 (40 * f + t) = delF J k t ∧ z 189 (40 * f + t) = delF V k t) ∧ (u ≤ t → t < n → z 187 (40 * f + t) = I t ∧ z 188 (40 * f + t) = J t ∧ z 189 (40 * f + t) = V t)
set_option maxHeartbeats 2000000 in
theorem y_take {X : PX} {d : Nat} {S : SS} {zI zL : ZM} {Q : PQ} (hS : Sk S) {a : FA} (hA : MF zI a) (hk : FOK a) {f i j : Int} (hf : inI f) (hi : inI i) (hj : inI j) (hQ0 : ¬ ((0 ≤ f ∧ f < a.1) ∧ fdA a f i j ≠ -1) → Q (some (pI (-2))) S zI zL) (hQ1 : (0 ≤ f ∧ f < a.1) → fdA a f i j ≠ -1 → gK a f ≠ 0 → Q (some (pI (-3))) S zI zL) (hQ3 : (0 ≤ f ∧ f < a.1) → fdA a f i j ≠ -1 → gK a f = 0 → ∀ z, frX z zI → MF z (setFA a f (delT a f i j)) → Q (some (pI (gN a f - 1))) S z zL) : wpM X (d + 3) fM_take [pR 184, pI f, pI i, pI j] S zI zL Q := by
  have hk0 := hk
  have hX := MF_x hA hk
  have hF0 := hA.1
  obtain ⟨kb, hkf⟩ := hk
  have hget : ∀ f, 0 ≤ f → f < zI 184 0 → (FM zI f (gN a f) (gI a f) (gJ a f) (gV a f) ∧ zI 185 f = gK a f) ∧ FR (gN a f) (gI a f) (gJ a f) (gV a f) ∧ FS (gN a f) (gI a f) (gJ a f) ∧ (0 ≤ gK a f ∧ gK a f ≤ 3) ∧ (gK a f = 0 → gN a f ≤ 12) := fun f f0 f1 => ⟨hA.2 f f0 (by omega), hkf f f0 (by omega)⟩
  have lp : (0 ≤ f ∧ f < a.1) → fdA a f i j ≠ -1 → gK a f = 0 → ∀ k : Int, k = fdA a f i j → (0 ≤ k ∧ k < gN a f) → gN a f ≤ 40 → ∀ s : Int, s ≤ gN a f - 1 → k ≤ s → ∀ (z : ZM) (u : Int), u = 40 * f + s → frF f z zI → deM z f (gN a f) k s (gI a f) (gJ a f) (gV a f) → Run X (d + 2) c_M_take 37 [some (pR 184), some (pI f), some (pI i), some (pI j), some (pI k), some (pI u)] [] S z zL 0 0 Q := by
    intro ef hfd hK k hkd hkb hn40
    refine loop_from _ (gN a f - 1) k (fun s hs ih s0 z u hu hz hM => ?_)
    have e4 := hM.1
    refine r_iload rfl rfl ?_
    refine r_bipush rfl ?_
    refine r_iload_n rfl rfl ?_
    refine r_imul rfl ?_
    refine r_aload_n rfl rfl ?_
    refine r_getR rfl (so184 hS) (sr184_2 hS) ?_
    refine r_iload_n rfl rfl ?_
    refine r_iald rfl (sw186 hS) (by omega) (by omega) ?_
    rw [e4]
    refine r_iadd rfl ?_
    refine r_icmp_ge rfl (by unfold inI; omega) (by unfold inI; omega) (fun h46 => ?_) (fun h46 => ?_)
    · skip
      refine r_aload_n rfl rfl ?_
      refine r_getR rfl (so184 hS) (sr184_2 hS) ?_
      refine r_iload_n rfl rfl ?_
      refine r_iald rfl (sw186 hS) (by omega) (by omega) ?_
      rw [e4]
      refine r_iret rfl ?_
      exact hQ3 ef hfd hK z (frX_F hz) (MF_set hA hk0 hz ⟨e4, fun t t0 t1 => by have t1 : t < gN a f - 1 := t1; have h1 := (hM.2 t t0).1 (by omega) t1; rw [hkd] at h1; exact h1⟩)
    · skip
      obtain ⟨g1, g2, g3⟩ := (hM.2 (s + 1) (by omega)).2 (by omega) (by omega)
      have g1' : z 187 (u + 1) = gI a f (s + 1) := by rw [← g1, hu, show 40 * f + s + 1 = 40 * f + (s + 1) by omega]
      have g2' : z 188 (u + 1) = gJ a f (s + 1) := by rw [← g2, hu, show 40 * f + s + 1 = 40 * f + (s + 1) by omega]
      have g3' : z 189 (u + 1) = gV a f (s + 1) := by rw [← g3, hu, show 40 * f + s + 1 = 40 * f + (s + 1) by omega]
      refine r_aload_n rfl rfl ?_
      refine r_getR rfl (so184 hS) (sr184_3 hS) ?_
      refine r_iload rfl rfl ?_
      refine r_aload_n rfl rfl ?_
      refine r_getR rfl (so184 hS) (sr184_3 hS) ?_
      refine r_iload rfl rfl ?_
      refine r_iconst rfl ?_
      refine r_iadd rfl ?_
      refine r_iald rfl (sw187 hS) (by omega) (by omega) ?_
      rw [g1']
      refine r_iast rfl (sw187 hS) (by omega) (by omega) ?_
      refine r_aload_n rfl rfl ?_
      refine r_getR rfl (so184 hS) (sr184_4 hS) ?_
      refine r_iload rfl rfl ?_
      refine r_aload_n rfl rfl ?_
      refine r_getR rfl (so184 hS) (sr184_4 hS) ?_
      refine r_iload rfl rfl ?_
      refine r_iconst rfl ?_
      refine r_iadd rfl ?_
      refine r_iald rfl (sw188 hS) (by omega) (by omega) ?_
      rw [zput_row (show (188 : Nat) ≠ 187 by decide), g2']
      refine r_iast rfl (sw188 hS) (by omega) (by omega) ?_
      refine r_aload_n rfl rfl ?_
      refine r_getR rfl (so184 hS) (sr184_5 hS) ?_
      refine r_iload rfl rfl ?_
      refine r_aload_n rfl rfl ?_
      refine r_getR rfl (so184 hS) (sr184_5 hS) ?_
      refine r_iload rfl rfl ?_
      refine r_iconst rfl ?_
      refine r_iadd rfl ?_
      refine r_iald rfl (sw189 hS) (by omega) (by omega) ?_
      rw [zput_row (show (189 : Nat) ≠ 188 by decide), zput_row (show (189 : Nat) ≠ 187 by decide), g3']
      refine r_iast rfl (sw189 hS) (by omega) (by omega) ?_
      refine r_iinc rfl rfl ?_
      refine r_goto rfl ?_
      refine ih (by omega) (by omega) _ _ (by omega) (frF_t hz ⟨fun c c0 c1 c2 c3 => by rw [zput_row c3, zput_row c2, zput_row c1], fun g hg => by rw [zput_row (by decide), zput_row (by decide), zput_row (by decide)], fun g hg => ?_⟩) ⟨by rw [zput_row (by decide), zput_row (by decide), zput_row (by decide)]; exact e4, fun t t0 => ?_⟩
      · unfold zput; simp (disch := omega) only [if_pos, if_neg, ↓reduceIte, true_and, and_true, true_or, or_true, and_self]
      · obtain ⟨u1, u2⟩ := hM.2 t t0
        refine ⟨fun q1 q2 => ?_, fun q1 q2 => ?_⟩
        · by_cases e : t = s
          · subst e
            unfold zput delF
            simp (disch := omega) only [if_pos, if_neg, ↓reduceIte, true_and, and_true, true_or, or_true, and_self]
          · unfold zput; simp (disch := omega) only [if_pos, if_neg, ↓reduceIte, true_and, and_true, true_or, or_true, and_self]; exact u1 (by omega) q2
        · unfold zput; simp (disch := omega) only [if_pos, if_neg, ↓reduceIte, true_and, and_true, true_or, or_true, and_self]; exact u2 (by omega) q2
  have rest : ∀ k, ((0 ≤ f ∧ f < a.1) ∧ k = fdA a f i j) ∨ (¬ (0 ≤ f ∧ f < a.1) ∧ k = -1) → Run X (d + 2) c_M_take 11 [some (pR 184), some (pI f), some (pI i), some (pI j), none, none] [pI k] S zI zL 0 0 Q := by
    intro k hkk
    have bk : -1 ≤ k ∧ k ≤ 40 := by
      rcases hkk with ⟨q1, q2⟩ | ⟨-, q⟩
      · obtain ⟨-, hR, -⟩ := hget f q1.1 (by omega)
        have h1 := fnd_in (gN a f) (gI a f) (gJ a f) i j hR.1
        have h2 := hR.2.1
        have q2 : k = fnd (gN a f) (gI a f) (gJ a f) i j := q2
        omega
      · omega
    refine r_istore rfl (Nat.le_of_ble_eq_true rfl) ?_
    refine r_iload rfl rfl ?_
    refine r_if_ge rfl (by unfold inI; omega) (fun h13 => ?_) (fun h13 => ?_)
    · skip
      obtain ⟨q1, q2⟩ : (0 ≤ f ∧ f < a.1) ∧ k = fdA a f i j := by
        rcases hkk with q | ⟨-, q⟩
        · exact q
        · omega
      obtain ⟨⟨hT, hK⟩, hR, -, hKb, -⟩ := hget f q1.1 (by omega)
      have e4 := hT.1
      have fi := fnd_in (gN a f) (gI a f) (gJ a f) i j hR.1
      have q2' : k = fnd (gN a f) (gI a f) (gJ a f) i j := q2
      rw [← q2'] at fi
      have hn40 := hR.2.1
      have hk1 : 0 ≤ k ∧ k < gN a f := by omega
      have hfd : fdA a f i j ≠ -1 := by rw [← q2]; omega
      refine r_aload_n rfl rfl ?_
      refine r_getR rfl (so184 hS) (sr184_1 hS) ?_
      refine r_iload_n rfl rfl ?_
      refine r_iald rfl (sw185 hS) (by omega) (by omega) ?_
      rw [hK]
      refine r_if_eq rfl (by unfold inI; omega) (fun h20 => ?_) (fun h20 => ?_)
      · skip
        refine r_aload_n rfl rfl ?_
        refine r_getR rfl (so184 hS) (sr184_2 hS) ?_
        refine r_iload_n rfl rfl ?_
        refine r_dup2 rfl ?_
        refine r_iald rfl (sw186 hS) (by omega) (by omega) ?_
        rw [e4]
        refine r_iconst rfl ?_
        refine r_isub rfl ?_
        refine r_iast rfl (sw186 hS) (by omega) (by omega) ?_
        refine r_bipush rfl ?_
        refine r_iload_n rfl rfl ?_
        refine r_imul rfl ?_
        refine r_iload rfl rfl ?_
        refine r_iadd rfl ?_
        refine r_istore rfl (Nat.le_of_ble_eq_true rfl) ?_
        exact lp q1 hfd (by omega) k q2 hk1 hn40 k (by omega) (Int.le_refl _) _ _ rfl ⟨fun c c0 c1 c2 c3 => zput_row c0, fun g hg => zput_off hg, fun g hg => by rw [zput_row (by decide), zput_row (by decide), zput_row (by decide)]; exact ⟨rfl, rfl, rfl⟩⟩ ⟨zput_at, fun t t0 => ⟨fun p1 p2 => by
          obtain ⟨g1, g2, g3⟩ := hT.2 t t0 (by omega)
          unfold delF
          rw [if_pos p1, if_pos p1, if_pos p1, zput_row (by decide), zput_row (by decide), zput_row (by decide)]
          exact ⟨g1, g2, g3⟩, fun p1 p2 => by rw [zput_row (by decide), zput_row (by decide), zput_row (by decide)]; exact hT.2 t t0 p2⟩⟩
      · skip
        refine r_bipush rfl ?_
        refine r_iret rfl ?_
        exact hQ1 q1 hfd (by omega)
    · skip
      refine r_bipush rfl ?_
      refine r_iret rfl ?_
      exact hQ0 (fun q => by rcases hkk with ⟨-, q2⟩ | ⟨q1, -⟩; exact q.2 (by omega); exact q1 q.1)
  refine wp_in (C := c_M_take) (ls := [some (pR 184), some (pI f), some (pI i), some (pI j), none, none]) rfl rfl rfl rfl rfl ?_
  refine r_aload_n rfl rfl ?_
  refine r_iload_n rfl rfl ?_
  refine r_cV2 rfl (so184 hS) (Nat.le_of_ble_eq_true rfl) rfl rfl (x_is hS hf hX (fun p q => ?_) (fun p0 => ?_))
  · skip
    refine r_if_eq1 rfl ?_
    refine r_aload_n rfl rfl ?_
    refine r_iload_n rfl rfl ?_
    refine r_iload_n rfl rfl ?_
    refine r_iload_n rfl rfl ?_
    refine r_cV4 rfl (so184 hS) (Nat.le_of_ble_eq_true rfl) rfl rfl (x_termAt (d := d + 1) hS (by omega) (hget f p q).1.1 (hget f p q).2.1 hi hj ?_)
    refine r_goto rfl ?_
    exact rest _ (Or.inl ⟨by omega, rfl⟩)
  · skip
    refine r_if_eq0 rfl ?_
    refine r_iconst rfl ?_
    exact rest _ (Or.inr ⟨by omega, rfl⟩)
