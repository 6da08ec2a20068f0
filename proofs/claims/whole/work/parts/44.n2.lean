/-! THE REFERENCE: terms come, drafts, forms made -/
def frF (f : Int) (z' z : ZM) : Prop := (∀ c, c ≠ 186 → c ≠ 187 → c ≠ 188 → c ≠ 189 → z' c = z c) ∧ (∀ k, k ≠ f → z' 186 k = z 186 k) ∧ (∀ k, (k < 40 * f ∨ 40 * f + 40 ≤ k) → z' 187 k = z 187 k ∧ z' 188 k = z 188 k ∧ z' 189 k = z 189 k)
theorem frF_r (f : Int) (z : ZM) : frF f z z := ⟨fun _ _ _ _ _ => rfl, fun _ _ => rfl, fun _ _ => ⟨rfl, rfl, rfl⟩⟩
theorem frF_t {f : Int} {z z2 z3 : ZM} (h1 : frF f z2 z) (h2 : frF f z3 z2) : frF f z3 z := ⟨fun c a b e g => (h2.1 c a b e g).trans (h1.1 c a b e g), fun k hk => (h2.2.1 k hk).trans (h1.2.1 k hk), fun k hk => ⟨(h2.2.2 k hk).1.trans (h1.2.2 k hk).1, (h2.2.2 k hk).2.1.trans (h1.2.2 k hk).2.1, (h2.2.2 k hk).2.2.trans (h1.2.2 k hk).2.2⟩⟩
theorem FM_frF {z z' : ZM} {f g n : Int} {I J V : Int → Int} (h : FM z g n I J V) (hn : n ≤ 40) (hg : g ≠ f) (hz : frF f z' z) : FM z' g n I J V := by
  refine ⟨(hz.2.1 g hg).trans h.1, fun t t0 t1 => ?_⟩
  obtain ⟨a, b, c⟩ := hz.2.2 (40 * g + t) (by omega)
  rw [a, b, c]; exact h.2 t t0 t1
theorem FM_fr {z z' : ZM} {g n : Int} {I J V : Int → Int} (h : FM z g n I J V) (hz : ∀ c, 186 ≤ c → c ≤ 189 → z' c = z c) : FM z' g n I J V := by
  unfold FM; rw [hz 186 (by decide) (by decide), hz 187 (by decide) (by decide), hz 188 (by decide) (by decide), hz 189 (by decide) (by decide)]; exact h
theorem psn_eq {n : Int} {I J : Int → Int} {a b k : Int} (h0 : 0 ≤ k) (h1 : k ≤ n) (hlo : 0 < k → lexlt (I (k - 1)) (J (k - 1)) a b) (hS : FS n I J) (hhi : ∀ t, k ≤ t → t < n → ¬ lexlt (I t) (J t) a b) : psn n I J a b = k := by
  obtain ⟨q1, q2, q3, q4⟩ := fstN_spec (fun t => !lexb (I t) (J t) a b) n.toNat 0
  unfold psn
  rcases Int.lt_trichotomy (fstN (fun t => !lexb (I t) (J t) a b) n.toNat 0) k with e | e | e
  · exfalso
    have h2 := q3 (by omega)
    have h3 := nlex_f.mp h2
    have h4 := hlo (by omega)
    by_cases e2 : fstN (fun t => !lexb (I t) (J t) a b) n.toNat 0 = k - 1
    · rw [e2] at h3; exact h3 h4
    · have h5 := hS _ (k - 1) q1 (by omega) (by omega)
      unfold lexlt at h3 h4 h5; omega
  · exact e
  · exfalso
    exact hhi k (Int.le_refl _) (by omega) (nlex_t.mp (q4 k h0 e))
def insM (z : ZM) (f n k : Int) (I J V : Int → Int) : Prop := z 186 f = n ∧ ∀ t, 0 ≤ t → (t < k → z 187 (40 * f + t) = I t ∧ z 188 (40 * f + t) = J t ∧ z 189 (40 * f + t) = V t) ∧ (k < t → t ≤ n → z 187 (40 * f + t) = I (t - 1) ∧ z 188 (40 * f + t) = J (t - 1) ∧ z 189 (40 * f + t) = V (t - 1))
set_option maxHeartbeats 4000000 in
theorem x_insert {X : PX} {d : Nat} {S : SS} {zI zL : ZM} {Q : PQ} (hS : Sk S) {f n : Int} {I J V : Int → Int} (hf : 0 ≤ f ∧ f ≤ 10) (hT : FM zI f n I J V) (hR : FR n I J V) (hS2 : FS n I J) (hn : n < 40) {a b v : Int} (ha : inI a) (hb : inI b) (hno : ∀ t, 0 ≤ t → t < n → ¬ (I t = a ∧ J t = b)) (hQ : ∀ z, frF f z zI → FM z f (n + 1) (insF I (psn n I J a b) a) (insF J (psn n I J a b) b) (insF V (psn n I J a b) v) → Q none S z zL) : wpM X (d + 1) fM_insert [pR 184, pI f, pI a, pI b, pI v] S zI zL Q := by
  obtain ⟨e4, hel⟩ := hT
  obtain ⟨hn0, hn40, hrg⟩ := hR
  have fin : ∀ k : Int, 0 ≤ k → k ≤ n → ∀ z, frF f z zI → insM z f n k I J V → psn n I J a b = k → Run X d c_M_insert 99 [some (pR 184), some (pI f), some (pI a), some (pI b), some (pI v), some (pI k)] [] S z zL 0 0 Q := by
    intro k k0 k1 z hz hi hp
    rw [hp] at hQ
    refine r_aload_n rfl rfl ?_
    refine r_getR rfl (so184 hS) (sr184_3 hS) ?_
    refine r_bipush rfl ?_
    refine r_iload_n rfl rfl ?_
    refine r_imul rfl ?_
    refine r_iload rfl rfl ?_
    refine r_iadd rfl ?_
    refine r_iload_n rfl rfl ?_
    refine r_iast rfl (sw187 hS) (by omega) (by omega) ?_
    refine r_aload_n rfl rfl ?_
    refine r_getR rfl (so184 hS) (sr184_4 hS) ?_
    refine r_bipush rfl ?_
    refine r_iload_n rfl rfl ?_
    refine r_imul rfl ?_
    refine r_iload rfl rfl ?_
    refine r_iadd rfl ?_
    refine r_iload_n rfl rfl ?_
    refine r_iast rfl (sw188 hS) (by omega) (by omega) ?_
    refine r_aload_n rfl rfl ?_
    refine r_getR rfl (so184 hS) (sr184_5 hS) ?_
    refine r_bipush rfl ?_
    refine r_iload_n rfl rfl ?_
    refine r_imul rfl ?_
    refine r_iload rfl rfl ?_
    refine r_iadd rfl ?_
    refine r_iload rfl rfl ?_
    refine r_iast rfl (sw189 hS) (by omega) (by omega) ?_
    refine r_aload_n rfl rfl ?_
    refine r_getR rfl (so184 hS) (sr184_2 hS) ?_
    refine r_iload_n rfl rfl ?_
    refine r_dup2 rfl ?_
    refine r_iald rfl (sw186 hS) (by omega) (by omega) ?_
    refine r_iconst rfl ?_
    refine r_iadd rfl ?_
    refine r_iast rfl (sw186 hS) (by omega) (by omega) ?_
    refine r_ret rfl ?_
    refine hQ _ (frF_t hz ⟨fun c a0 a1 a2 a3 => by rw [zput_row a0, zput_row a3, zput_row a2, zput_row a1], fun k2 hk2 => by rw [zput_off hk2]; rw [zput_row (by decide), zput_row (by decide), zput_row (by decide)], fun k2 hk2 => ?_⟩) ⟨?_, fun t t0 t1 => ?_⟩
    · unfold zput; simp (disch := omega) only [if_pos, if_neg, ↓reduceIte, true_and, and_true, true_or, or_true, and_self]
    · unfold zput; simp (disch := omega) only [if_pos, if_neg, ↓reduceIte, true_and, and_true, true_or, or_true, and_self]; rw [hi.1]
    · obtain ⟨u1, u2⟩ := hi.2 t t0
      unfold zput insF
      rcases Int.lt_trichotomy t k with ee | ee | ee
      · simp (disch := omega) only [if_pos, if_neg, ↓reduceIte, true_and, and_true, true_or, or_true, and_self]; exact u1 ee
      · subst ee; simp (disch := omega) only [if_pos, if_neg, ↓reduceIte, true_and, and_true, true_or, or_true, and_self]
      · simp (disch := omega) only [if_pos, if_neg, ↓reduceIte, true_and, and_true, true_or, or_true, and_self]; exact u2 ee (by omega)
  have key : ∀ k : Int, 0 ≤ k → k ≤ n → ∀ z, frF f z zI → insM z f n k I J V → (∀ t, k ≤ t → t < n → ¬ lexlt (I t) (J t) a b) → Run X d c_M_insert 5 [some (pR 184), some (pI f), some (pI a), some (pI b), some (pI v), some (pI k)] [] S z zL 0 0 Q := by
    refine loop_dn _ 0 (fun k h0 ih k1 z hz hi hhi => ?_)
    have stopk : (0 < k → lexlt (I (k - 1)) (J (k - 1)) a b) → psn n I J a b = k := fun q => psn_eq h0 k1 q hS2 hhi
    refine r_iload rfl rfl ?_
    refine r_if_le rfl (by unfold inI; omega) (fun h6 => ?_) (fun h6 => ?_)
    · skip
      exact fin k h0 k1 z hz hi (stopk (fun q => by omega))
    · skip
      have g := (hi.2 (k - 1) (by omega)).1 (by omega)
      have rg := hrg (k - 1) (by omega) (by omega)
      have no := hno (k - 1) (by omega) (by omega)
      rw [show 40 * f + (k - 1) = 40 * f + k - 1 by omega] at g
      refine r_aload_n rfl rfl ?_
      refine r_getR rfl (so184 hS) (sr184_3 hS) ?_
      refine r_bipush rfl ?_
      refine r_iload_n rfl rfl ?_
      refine r_imul rfl ?_
      refine r_iload rfl rfl ?_
      refine r_iadd rfl ?_
      refine r_iconst rfl ?_
      refine r_isub rfl ?_
      refine r_iald rfl (sw187 hS) (by omega) (by omega) ?_
      rw [g.1]
      refine r_iload_n rfl rfl ?_
      refine r_icmp_gt rfl (by unfold inI; omega) ha (fun h18 => ?_) (fun h18 => ?_)
      · skip
        refine r_aload_n rfl rfl ?_
        refine r_getR rfl (so184 hS) (sr184_3 hS) ?_
        refine r_bipush rfl ?_
        refine r_iload_n rfl rfl ?_
        refine r_imul rfl ?_
        refine r_iload rfl rfl ?_
        refine r_iadd rfl ?_
        refine r_aload_n rfl rfl ?_
        refine r_getR rfl (so184 hS) (sr184_3 hS) ?_
        refine r_bipush rfl ?_
        refine r_iload_n rfl rfl ?_
        refine r_imul rfl ?_
        refine r_iload rfl rfl ?_
        refine r_iadd rfl ?_
        refine r_iconst rfl ?_
        refine r_isub rfl ?_
        refine r_iald rfl (sw187 hS) (by omega) (by omega) ?_
        rw [g.1]
        refine r_iast rfl (sw187 hS) (by omega) (by omega) ?_
        refine r_aload_n rfl rfl ?_
        refine r_getR rfl (so184 hS) (sr184_4 hS) ?_
        refine r_bipush rfl ?_
        refine r_iload_n rfl rfl ?_
        refine r_imul rfl ?_
        refine r_iload rfl rfl ?_
        refine r_iadd rfl ?_
        refine r_aload_n rfl rfl ?_
        refine r_getR rfl (so184 hS) (sr184_4 hS) ?_
        refine r_bipush rfl ?_
        refine r_iload_n rfl rfl ?_
        refine r_imul rfl ?_
        refine r_iload rfl rfl ?_
        refine r_iadd rfl ?_
        refine r_iconst rfl ?_
        refine r_isub rfl ?_
        refine r_iald rfl (sw188 hS) (by omega) (by omega) ?_
        rw [zput_row (show (188 : Nat) ≠ 187 by decide), g.2.1]
        refine r_iast rfl (sw188 hS) (by omega) (by omega) ?_
        refine r_aload_n rfl rfl ?_
        refine r_getR rfl (so184 hS) (sr184_5 hS) ?_
        refine r_bipush rfl ?_
        refine r_iload_n rfl rfl ?_
        refine r_imul rfl ?_
        refine r_iload rfl rfl ?_
        refine r_iadd rfl ?_
        refine r_aload_n rfl rfl ?_
        refine r_getR rfl (so184 hS) (sr184_5 hS) ?_
        refine r_bipush rfl ?_
        refine r_iload_n rfl rfl ?_
        refine r_imul rfl ?_
        refine r_iload rfl rfl ?_
        refine r_iadd rfl ?_
        refine r_iconst rfl ?_
        refine r_isub rfl ?_
        refine r_iald rfl (sw189 hS) (by omega) (by omega) ?_
        rw [zput_row (show (189 : Nat) ≠ 188 by decide), zput_row (show (189 : Nat) ≠ 187 by decide), g.2.2]
        refine r_iast rfl (sw189 hS) (by omega) (by omega) ?_
        refine r_iinc rfl rfl ?_
        refine r_goto rfl ?_
        refine ih (by omega) (by omega) _ (frF_t hz ⟨fun c a0 a1 a2 a3 => by rw [zput_row a3, zput_row a2, zput_row a1], fun k2 hk2 => by rw [zput_row (by decide), zput_row (by decide), zput_row (by decide)], fun k2 hk2 => ?_⟩) ⟨?_, fun t t0 => ?_⟩ (fun t q1 q2 => ?_)
        · unfold zput; simp (disch := omega) only [if_pos, if_neg, ↓reduceIte, true_and, and_true, true_or, or_true, and_self]
        · rw [zput_row (by decide), zput_row (by decide), zput_row (by decide)]; exact hi.1
        · obtain ⟨u1, u2⟩ := hi.2 t t0
          refine ⟨fun q => ?_, fun q1 q2 => ?_⟩
          · unfold zput; simp (disch := omega) only [if_pos, if_neg, ↓reduceIte, true_and, and_true, true_or, or_true, and_self]; exact u1 (by omega)
          · by_cases ee : t = k
            · subst ee; unfold zput; simp (disch := omega) only [if_pos, if_neg, ↓reduceIte, true_and, and_true, true_or, or_true, and_self]
            · unfold zput; simp (disch := omega) only [if_pos, if_neg, ↓reduceIte, true_and, and_true, true_or, or_true, and_self]; exact u2 (by omega) (by omega)
        · by_cases ee : t = k - 1
          · subst ee; unfold lexlt; omega
          · exact hhi t (by omega) q2
      · skip
        refine r_aload_n rfl rfl ?_
        refine r_getR rfl (so184 hS) (sr184_3 hS) ?_
        refine r_bipush rfl ?_
        refine r_iload_n rfl rfl ?_
        refine r_imul rfl ?_
        refine r_iload rfl rfl ?_
        refine r_iadd rfl ?_
        refine r_iconst rfl ?_
        refine r_isub rfl ?_
        refine r_iald rfl (sw187 hS) (by omega) (by omega) ?_
        rw [g.1]
        refine r_iload_n rfl rfl ?_
        refine r_icmp_ne rfl (by unfold inI; omega) ha (fun h30 => ?_) (fun h30 => ?_)
        · skip
          exact fin k h0 k1 z hz hi (stopk (fun q => by unfold lexlt; omega))
        · skip
          refine r_aload_n rfl rfl ?_
          refine r_getR rfl (so184 hS) (sr184_4 hS) ?_
          refine r_bipush rfl ?_
          refine r_iload_n rfl rfl ?_
          refine r_imul rfl ?_
          refine r_iload rfl rfl ?_
          refine r_iadd rfl ?_
          refine r_iconst rfl ?_
          refine r_isub rfl ?_
          refine r_iald rfl (sw188 hS) (by omega) (by omega) ?_
          rw [g.2.1]
          refine r_iload_n rfl rfl ?_
          refine r_icmp_le rfl (by unfold inI; omega) hb (fun h42 => ?_) (fun h42 => ?_)
          · skip
            exact fin k h0 k1 z hz hi (stopk (fun q => by unfold lexlt; omega))
          · skip
            refine r_aload_n rfl rfl ?_
            refine r_getR rfl (so184 hS) (sr184_3 hS) ?_
            refine r_bipush rfl ?_
            refine r_iload_n rfl rfl ?_
            refine r_imul rfl ?_
            refine r_iload rfl rfl ?_
            refine r_iadd rfl ?_
            refine r_aload_n rfl rfl ?_
            refine r_getR rfl (so184 hS) (sr184_3 hS) ?_
            refine r_bipush rfl ?_
            refine r_iload_n rfl rfl ?_
            refine r_imul rfl ?_
            refine r_iload rfl rfl ?_
            refine r_iadd rfl ?_
            refine r_iconst rfl ?_
            refine r_isub rfl ?_
            refine r_iald rfl (sw187 hS) (by omega) (by omega) ?_
            rw [g.1]
            refine r_iast rfl (sw187 hS) (by omega) (by omega) ?_
            refine r_aload_n rfl rfl ?_
            refine r_getR rfl (so184 hS) (sr184_4 hS) ?_
            refine r_bipush rfl ?_
            refine r_iload_n rfl rfl ?_
            refine r_imul rfl ?_
            refine r_iload rfl rfl ?_
            refine r_iadd rfl ?_
            refine r_aload_n rfl rfl ?_
            refine r_getR rfl (so184 hS) (sr184_4 hS) ?_
            refine r_bipush rfl ?_
            refine r_iload_n rfl rfl ?_
            refine r_imul rfl ?_
            refine r_iload rfl rfl ?_
            refine r_iadd rfl ?_
            refine r_iconst rfl ?_
            refine r_isub rfl ?_
            refine r_iald rfl (sw188 hS) (by omega) (by omega) ?_
            rw [zput_row (show (188 : Nat) ≠ 187 by decide), g.2.1]
            refine r_iast rfl (sw188 hS) (by omega) (by omega) ?_
            refine r_aload_n rfl rfl ?_
            refine r_getR rfl (so184 hS) (sr184_5 hS) ?_
            refine r_bipush rfl ?_
            refine r_iload_n rfl rfl ?_
            refine r_imul rfl ?_
            refine r_iload rfl rfl ?_
            refine r_iadd rfl ?_
            refine r_aload_n rfl rfl ?_
            refine r_getR rfl (so184 hS) (sr184_5 hS) ?_
            refine r_bipush rfl ?_
            refine r_iload_n rfl rfl ?_
            refine r_imul rfl ?_
            refine r_iload rfl rfl ?_
            refine r_iadd rfl ?_
            refine r_iconst rfl ?_
            refine r_isub rfl ?_
            refine r_iald rfl (sw189 hS) (by omega) (by omega) ?_
            rw [zput_row (show (189 : Nat) ≠ 188 by decide), zput_row (show (189 : Nat) ≠ 187 by decide), g.2.2]
            refine r_iast rfl (sw189 hS) (by omega) (by omega) ?_
            refine r_iinc rfl rfl ?_
            refine r_goto rfl ?_
            refine ih (by omega) (by omega) _ (frF_t hz ⟨fun c a0 a1 a2 a3 => by rw [zput_row a3, zput_row a2, zput_row a1], fun k2 hk2 => by rw [zput_row (by decide), zput_row (by decide), zput_row (by decide)], fun k2 hk2 => ?_⟩) ⟨?_, fun t t0 => ?_⟩ (fun t q1 q2 => ?_)
            · unfold zput; simp (disch := omega) only [if_pos, if_neg, ↓reduceIte, true_and, and_true, true_or, or_true, and_self]
            · rw [zput_row (by decide), zput_row (by decide), zput_row (by decide)]; exact hi.1
            · obtain ⟨u1, u2⟩ := hi.2 t t0
              refine ⟨fun q => ?_, fun q1 q2 => ?_⟩
              · unfold zput; simp (disch := omega) only [if_pos, if_neg, ↓reduceIte, true_and, and_true, true_or, or_true, and_self]; exact u1 (by omega)
              · by_cases ee : t = k
                · subst ee; unfold zput; simp (disch := omega) only [if_pos, if_neg, ↓reduceIte, true_and, and_true, true_or, or_true, and_self]
                · unfold zput; simp (disch := omega) only [if_pos, if_neg, ↓reduceIte, true_and, and_true, true_or, or_true, and_self]; exact u2 (by omega) (by omega)
            · by_cases ee : t = k - 1
              · subst ee; unfold lexlt; omega
              · exact hhi t (by omega) q2
  refine wp_in (C := c_M_insert) (ls := [some (pR 184), some (pI f), some (pI a), some (pI b), some (pI v), none]) rfl rfl rfl rfl rfl ?_
  refine r_aload_n rfl rfl ?_
  refine r_getR rfl (so184 hS) (sr184_2 hS) ?_
  refine r_iload_n rfl rfl ?_
  refine r_iald rfl (sw186 hS) (by omega) (by omega) ?_
  rw [e4]
  refine r_istore rfl (Nat.le_of_ble_eq_true rfl) ?_
  exact key n hn0 (Int.le_refl _) zI (frF_r f zI) ⟨e4, fun t t0 => ⟨fun q => hel t t0 q, fun q1 q2 => by omega⟩⟩ (fun t q1 q2 => by omega)
/-- the table of places -/
def NH (z : ZM) (a b : Nat) (G : Int → Option Int) : Prop := ∀ p, 0 ≤ p → p < 81 → (G p = none → z a p = 0) ∧ ∀ v, G p = some v → z a p = 1 ∧ z b p = v
theorem NH_fr {z z' : ZM} {a b : Nat} {G : Int → Option Int} (h : NH z a b G) (ha : z' a = z a) (hb : z' b = z b) : NH z' a b G := by unfold NH; rw [ha, hb]; exact h
theorem NH_01 {z : ZM} {a b : Nat} {G : Int → Option Int} (h : NH z a b G) {p : Int} (h0 : 0 ≤ p) (h1 : p < 81) : z a p = 0 ∨ z a p = 1 := by
  cases hG : G p with
  | none => exact Or.inl ((h p h0 h1).1 hG)
  | some v => exact Or.inr ((h p h0 h1).2 v hG).1
theorem NH_put {z : ZM} {G : Int → Option Int} {p v u : Int} (h : NH z 192 190 G) (hu : u = (match G p with | none => v | some w => min w v)) : NH (zput (zput z 190 p u) 192 p 1) 192 190 (gl G p v) := by
  intro q q0 q1
  unfold gl
  by_cases e : q = p
  · subst e
    rw [if_pos rfl]
    refine ⟨fun k => (by cases k), fun w hw => ⟨zput_at, ?_⟩⟩
    rw [zput_row (show (190 : Nat) ≠ 192 by decide), zput_at, hu]
    exact Option.some.inj hw
  · rw [if_neg e, zput_off e, zput_row (show (192 : Nat) ≠ 190 by decide), zput_row (show (190 : Nat) ≠ 192 by decide), zput_off e]
    exact h q q0 q1
theorem NH_put2 {z : ZM} {G : Int → Option Int} {p v u : Int} (h : NH z 192 190 G) (hu : u = (match G p with | none => v | some w => min w v)) : NH (zput (zput z 192 p 1) 190 p u) 192 190 (gl G p v) := by
  have := NH_put h hu
  exact NH_fr this (by funext k; rw [zput_row (show (192 : Nat) ≠ 190 by decide)]; unfold zput; rfl) (by funext k; rw [zput_row (show (190 : Nat) ≠ 192 by decide)]; unfold zput; rfl)
theorem NH_keep {z : ZM} {G : Int → Option Int} {p v w : Int} (h : NH z 192 190 G) (hp : 0 ≤ p ∧ p < 81) (hG : G p = some w) (hv : w ≤ v) : NH (zput z 192 p 1) 192 190 (gl G p v) := by
  have := NH_put (u := w) (v := v) h (by rw [hG]; exact (Int.min_eq_left hv).symm)
  have hw := ((h p hp.1 hp.2).2 w hG).2
  refine NH_fr this rfl ?_
  funext k
  rw [zput_row (show (190 : Nat) ≠ 192 by decide), zput_row (show (190 : Nat) ≠ 192 by decide)]
  unfold zput
  split
  · rename_i q; rw [q.2, hw]
  · rfl
def frN (z' z : ZM) : Prop := (∀ c, c ≠ 184 → c ≠ 190 → c ≠ 191 → c ≠ 192 → c ≠ 193 → z' c = z c) ∧ ∀ k, k ≠ 10 → z' 184 k = z 184 k
theorem frN_r (z : ZM) : frN z z := ⟨fun _ _ _ _ _ _ => rfl, fun _ _ => rfl⟩
theorem frN_t {z z2 z3 : ZM} (h1 : frN z2 z) (h2 : frN z3 z2) : frN z3 z := ⟨fun c a b e g k => (h2.1 c a b e g k).trans (h1.1 c a b e g k), fun k hk => (h2.2 k hk).trans (h1.2 k hk)⟩
theorem frN_p {z' z : ZM} {c : Nat} {k v : Int} (h : frN z' z) (hc : 190 ≤ c ∧ c ≤ 193) : frN (zput z' c k v) z := ⟨fun q a b e g m => by rw [zput_row (by omega)]; exact h.1 q a b e g m, fun j hj => by rw [zput_row (by omega)]; exact h.2 j hj⟩
theorem frN_b {z' z : ZM} {v : Int} (h : frN z' z) : frN (zput z' 184 10 v) z := ⟨fun q a b e g m => by rw [zput_row a]; exact h.1 q a b e g m, fun j hj => by rw [zput_off hj]; exact h.2 j hj⟩
theorem frN_zr {z z' : ZM} (hz : ∀ c, c ≠ 192 → z' c = z c) : frN z' z := ⟨fun c _ _ _ k _ => hz c k, fun k _ => by rw [hz 184 (by decide)]⟩
set_option maxHeartbeats 4000000 in
theorem x_spread {X : PX} {d : Nat} {S : SS} {zI zL : ZM} {Q : PQ} (hS : Sk S) {f n : Int} {I J V : Int → Int} (hf : 0 ≤ f ∧ f ≤ 10) (hT : FM zI f n I J V) (hR : FR n I J V) (hS2 : FS n I J) (hQ : ∀ z, frN z zI → NH z 192 190 (loadG n I J V) → z 184 10 = 0 → Q none S z zL) : wpM X (d + 1) fM_spreadOut [pR 184, pI f] S zI zL Q := by
  have hT0 := hT
  have hR0 := hR
  obtain ⟨e4, hel⟩ := hT
  obtain ⟨hn0, hn40, hrg⟩ := hR
  have lp2 : ∀ k : Int, k ≤ n → 0 ≤ k → ∀ (z : ZM) (G : Int → Option Int) (u : Int), u = 40 * f + k → frN z zI → z 184 10 = 0 → NH z 192 190 G → (∀ p, (∀ t, 0 ≤ t → t < k → p ≠ I t * 9 + J t) → G p = none) → loadT I J V (n - k).toNat k G = loadG n I J V → Run X d c_M_spreadOut 19 [some (pR 184), some (pI f), some (pI u)] [] S z zL 0 0 Q := by
    refine loop_up _ n (fun k hk ih h0 z G u hu hz hz10 hN hfr hs => ?_)
    have e4z : z 186 f = n := by rw [hz.1 186 (by decide) (by decide) (by decide) (by decide) (by decide)]; exact e4
    refine r_iload_n rfl rfl ?_
    refine r_bipush rfl ?_
    refine r_iload_n rfl rfl ?_
    refine r_imul rfl ?_
    refine r_aload_n rfl rfl ?_
    refine r_getR rfl (so184 hS) (sr184_2 hS) ?_
    refine r_iload_n rfl rfl ?_
    refine r_iald rfl (sw186 hS) (by omega) (by omega) ?_
    rw [e4z]
    refine r_iadd rfl ?_
    refine r_icmp_ge rfl (by unfold inI; omega) (by unfold inI; omega) (fun h28 => ?_) (fun h28 => ?_)
    · skip
      refine r_ret rfl ?_
      rw [loadT_e (by omega)] at hs; rw [← hs] at hQ; exact hQ z hz hN hz10
    · skip
      obtain ⟨g1, g2, g3⟩ := hel k h0 (by omega)
      have rg := hrg k h0 (by omega)
      rw [← hu, ← hz.1 187 (by decide) (by decide) (by decide) (by decide) (by decide)] at g1
      rw [← hu, ← hz.1 188 (by decide) (by decide) (by decide) (by decide) (by decide)] at g2
      rw [← hu, ← hz.1 189 (by decide) (by decide) (by decide) (by decide) (by decide)] at g3
      refine r_aload_n rfl rfl ?_
      refine r_getR rfl (so184 hS) (sr184_8 hS) ?_
      refine r_bipush rfl ?_
      refine r_aload_n rfl rfl ?_
      refine r_getR rfl (so184 hS) (sr184_3 hS) ?_
      refine r_iload_n rfl rfl ?_
      refine r_iald rfl (sw187 hS) (by omega) (by omega) ?_
      rw [g1]
      refine r_imul rfl ?_
      refine r_aload_n rfl rfl ?_
      refine r_getR rfl (so184 hS) (sr184_4 hS) ?_
      refine r_iload_n rfl rfl ?_
      refine r_iald rfl (sw188 hS) (by omega) (by omega) ?_
      rw [g2]
      refine r_iadd rfl ?_
      refine r_iconst rfl ?_
      refine r_bast rfl (sw192 hS) (by omega) (by omega) (by first | exact Or.inl rfl | exact Or.inr rfl | assumption) ?_
      refine r_aload_n rfl rfl ?_
      refine r_getR rfl (so184 hS) (sr184_6 hS) ?_
      refine r_bipush rfl ?_
      refine r_aload_n rfl rfl ?_
      refine r_getR rfl (so184 hS) (sr184_3 hS) ?_
      refine r_iload_n rfl rfl ?_
      refine r_iald rfl (sw187 hS) (by omega) (by omega) ?_
      rw [zput_row (show (187 : Nat) ≠ 192 by decide), g1]
      refine r_imul rfl ?_
      refine r_aload_n rfl rfl ?_
      refine r_getR rfl (so184 hS) (sr184_4 hS) ?_
      refine r_iload_n rfl rfl ?_
      refine r_iald rfl (sw188 hS) (by omega) (by omega) ?_
      rw [zput_row (show (188 : Nat) ≠ 192 by decide), g2]
      refine r_iadd rfl ?_
      refine r_aload_n rfl rfl ?_
      refine r_getR rfl (so184 hS) (sr184_5 hS) ?_
      refine r_iload_n rfl rfl ?_
      refine r_iald rfl (sw189 hS) (by omega) (by omega) ?_
      rw [zput_row (show (189 : Nat) ≠ 192 by decide), g3]
      refine r_iast rfl (sw190 hS) (by omega) (by omega) ?_
      refine r_iinc rfl rfl ?_
      refine r_goto rfl ?_
      have hnone : G (I k * 9 + J k) = none := hfr _ (fun t t0 t1 => by
        have h2 := hS2 t k t0 t1 (by omega)
        have r2 := hrg t t0 (by omega)
        unfold lexlt at h2; omega)
      have hNN := NH_put2 (p := I k * 9 + J k) (v := V k) (u := V k) hN (by rw [hnone])
      rw [show 9 * I k + J k = I k * 9 + J k by omega]
      refine ih (by omega) (by omega) _ _ _ (by omega) (frN_p (frN_p hz (by decide)) (by decide)) ?_ hNN (fun p hp => ?_) (by rw [loadT_s (by omega)] at hs; exact hs)
      · rw [zput_row (by decide), zput_row (by decide)]; exact hz10
      · unfold gl
        rw [if_neg (hp k h0 (by omega))]
        exact hfr p (fun t t0 t1 => hp t t0 (by omega))
  have lp1 : ∀ k : Int, k ≤ 81 → 0 ≤ k → ∀ z : ZM, (∀ c, c ≠ 192 → z c = zI c) → (∀ p, 0 ≤ p → p < k → z 192 p = 0) → Run X d c_M_spreadOut 2 [some (pR 184), some (pI f), some (pI k)] [] S z zL 0 0 Q := by
    refine loop_up _ 81 (fun k hk ih h0 z hz h0z => ?_)
    refine r_iload_n rfl rfl ?_
    refine r_bipush rfl ?_
    refine r_icmp_ge rfl (by unfold inI; omega) (by unfold inI; omega) (fun h4 => ?_) (fun h4 => ?_)
    · skip
      refine r_aload_n rfl rfl ?_
      refine r_iconst rfl ?_
      refine r_putZ rfl (so184 hS) (by first | exact Or.inl rfl | exact Or.inr rfl | assumption) ?_
      refine r_bipush rfl ?_
      refine r_iload_n rfl rfl ?_
      refine r_imul rfl ?_
      refine r_istore_n rfl (Nat.le_of_ble_eq_true rfl) ?_
      refine lp2 0 hn0 (Int.le_refl _) _ (fun _ => none) _ (by omega) (frN_b (frN_zr hz)) zput_at (fun p p0 p1 => ⟨fun _ => by rw [zput_row (by decide)]; exact h0z p p0 (by omega), fun v hv => by cases hv⟩) (fun p _ => rfl) (by rw [Int.sub_zero]; rfl)
    · skip
      refine r_aload_n rfl rfl ?_
      refine r_getR rfl (so184 hS) (sr184_8 hS) ?_
      refine r_iload_n rfl rfl ?_
      refine r_iconst rfl ?_
      refine r_bast rfl (sw192 hS) (by omega) (by omega) (by first | exact Or.inl rfl | exact Or.inr rfl | assumption) ?_
      refine r_iinc rfl rfl ?_
      refine r_goto rfl ?_
      refine ih (by omega) (by omega) _ (fun c hc => by rw [zput_row hc]; exact hz c hc) (fun p p0 p1 => ?_)
      by_cases e : p = k
      · subst e; rw [zput_at]
      · rw [zput_off e]; exact h0z p p0 (by omega)
  refine wp_in (C := c_M_spreadOut) (ls := [some (pR 184), some (pI f), none]) rfl rfl rfl rfl rfl ?_
  refine r_iconst rfl ?_
  refine r_istore_n rfl (Nat.le_of_ble_eq_true rfl) ?_
  exact lp1 0 (by decide) (Int.le_refl _) zI (fun _ _ => rfl) (fun p p0 p1 => by omega)
