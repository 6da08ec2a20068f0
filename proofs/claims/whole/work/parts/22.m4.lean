/-! FORMS: what is written -/
theorem w_begin {X : PX} {d : Nat} {S : SS} {zI zL : ZM} {Q : PQ} {h : Nat} {kd : Int} (hF : isForm S h) (hQ : Q none S (zput (zput (zput zI h 3 kd) h 4 0) h 5 0) zL) : wpM X (d + 1) fForm_begin [pR h, pI kd] S zI zL Q := by
  obtain ⟨hob, -⟩ := hF
  refine wp_in (C := c_Form_begin) (ls := [some (pR h), some (pI kd)]) rfl rfl rfl rfl rfl ?_
  refine r_aload_n rfl rfl ?_
  refine r_iload_n rfl rfl ?_
  refine r_putI rfl (by assumption) ?_
  refine r_aload_n rfl rfl ?_
  refine r_iconst rfl ?_
  refine r_putI rfl (by assumption) ?_
  refine r_aload_n rfl rfl ?_
  refine r_iconst rfl ?_
  refine r_putZ rfl (by assumption) (by first | exact Or.inl rfl | exact Or.inr rfl) ?_
  refine r_ret rfl ?_
  exact hQ
/-- the rows behind a form: a stretch brought to another place -/
def slZ (z : ZM) (h : Nat) (sp dp n : Int) : ZM := fun c k => if (c = h + 1 ∨ c = h + 2 ∨ c = h + 3) ∧ dp ≤ k ∧ k < dp + n then z c (sp + (k - dp)) else z c k
theorem slZ_0 (z : ZM) (h : Nat) (sp dp n : Int) (hn : n ≤ 0) : slZ z h sp dp n = z := by funext c k; unfold slZ; rw [if_neg (by omega)]
theorem slZ_3 (z : ZM) (h : Nat) (sp dp n : Int) : zrow (zrow (zrow z (h + 1) (cpI (z (h + 1)) (z (h + 1)) sp dp n)) (h + 2) (cpI (zrow z (h + 1) (cpI (z (h + 1)) (z (h + 1)) sp dp n) (h + 2)) (zrow z (h + 1) (cpI (z (h + 1)) (z (h + 1)) sp dp n) (h + 2)) sp dp n)) (h + 3)
    (cpI (zrow (zrow z (h + 1) (cpI (z (h + 1)) (z (h + 1)) sp dp n)) (h + 2) (cpI (zrow z (h + 1) (cpI (z (h + 1)) (z (h + 1)) sp dp n) (h + 2)) (zrow z (h + 1) (cpI (z (h + 1)) (z (h + 1)) sp dp n) (h + 2)) sp dp n) (h + 3)) (zrow (zrow z (h + 1) (cpI (z (h + 1)) (z (h + 1)) sp dp n)) (h + 2) (cpI (zrow z (h + 1) (cpI (z (h + 1)) (z (h + 1)) sp dp n) (h + 2)) (zrow z (h + 1) (cpI (z (h + 1)) (z (h + 1)) sp dp n) (h + 2)) sp dp n) (h + 3)) sp dp n) = slZ z h sp dp n := by
  funext c k
  unfold zrow slZ cpI
  by_cases h3 : c = h + 3
  · subst h3
    by_cases hk : dp ≤ k ∧ k < dp + n <;> simp (disch := omega) only [if_pos, if_neg, ↓reduceIte, true_and, and_true, true_or, or_true, and_self]
  · by_cases h2 : c = h + 2
    · subst h2
      by_cases hk : dp ≤ k ∧ k < dp + n <;> simp (disch := omega) only [if_pos, if_neg, ↓reduceIte, true_and, and_true, true_or, or_true, and_self]
    · by_cases h1 : c = h + 1
      · subst h1
        by_cases hk : dp ≤ k ∧ k < dp + n <;> simp (disch := omega) only [if_pos, if_neg, ↓reduceIte, true_and, and_true, true_or, or_true, and_self]
      · simp (disch := omega) only [if_pos, if_neg, ↓reduceIte, true_and, and_true, true_or, or_true, and_self]
theorem w_slide {X : PX} {d : Nat} {S : SS} {zI zL : ZM} {Q : PQ} {h : Nat} {n sp dp : Int} (hF : isForm S h) (e4 : zI h 4 = n) (h0 : 0 ≤ sp) (h1 : 0 ≤ dp) (h2 : sp ≤ 40) (h3 : dp ≤ 40) (h4 : n ≤ 40) (h40 : 0 ≤ n) (h5 : dp + (n - sp) ≤ 40) (hQ : Q none S (slZ zI h sp dp (n - sp)) zL) : wpM X (d + 1) fForm_slide [pR h, pI sp, pI dp] S zI zL Q := by
  obtain ⟨hob, ⟨hr1, hr2, hr3⟩, hf1, hf2, hf3⟩ := hF
  refine wp_in (C := c_Form_slide) (ls := [some (pR h), some (pI sp), some (pI dp), none]) rfl rfl rfl rfl rfl ?_
  refine r_aload_n rfl rfl ?_
  refine r_getI rfl (by assumption) ?_
  refine r_iload_n rfl rfl ?_
  refine r_isub rfl ?_
  refine r_istore_n rfl (Nat.le_of_ble_eq_true rfl) ?_
  refine r_iload_n rfl rfl ?_
  refine r_if_le rfl (by unfold inI; omega) (fun h6 => ?_) (fun h6 => ?_)
  · skip
    refine r_ret rfl ?_
    rw [slZ_0 _ _ _ _ _ (by omega)] at hQ; exact hQ
  · skip
    refine r_iload_n rfl rfl ?_
    refine r_if_lt rfl (by unfold inI; omega) (fun h8 => ?_) (fun h8 => ?_)
    · skip
      refine r_ret rfl ?_
      exact absurd h8 (by omega)
    · skip
      refine r_iload_n rfl rfl ?_
      refine r_if_lt rfl (by unfold inI; omega) (fun h10 => ?_) (fun h10 => ?_)
      · skip
        refine r_ret rfl ?_
        exact absurd h10 (by omega)
      · skip
        refine r_iload_n rfl rfl ?_
        refine r_iload_n rfl rfl ?_
        refine r_iadd rfl ?_
        refine r_bipush rfl ?_
        refine r_icmp_gt rfl (by unfold inI; omega) (by unfold inI; omega) (fun h15 => ?_) (fun h15 => ?_)
        · skip
          refine r_ret rfl ?_
          exact absurd h15 (by omega)
        · skip
          refine r_aload_n rfl rfl ?_
          refine r_getR rfl (by assumption) (by assumption) ?_
          refine r_iload_n rfl rfl ?_
          refine r_aload_n rfl rfl ?_
          refine r_getR rfl (by assumption) (by assumption) ?_
          refine r_iload_n rfl rfl ?_
          refine r_iload_n rfl rfl ?_
          refine r_acopyI rfl hr1 hr1 (Nat.le_of_ble_eq_true rfl) (by omega) (by omega) (by omega) (by omega) (by omega) ?_
          refine r_aload_n rfl rfl ?_
          refine r_getR rfl (by assumption) (by assumption) ?_
          refine r_iload_n rfl rfl ?_
          refine r_aload_n rfl rfl ?_
          refine r_getR rfl (by assumption) (by assumption) ?_
          refine r_iload_n rfl rfl ?_
          refine r_iload_n rfl rfl ?_
          refine r_acopyI rfl hr2 hr2 (Nat.le_of_ble_eq_true rfl) (by omega) (by omega) (by omega) (by omega) (by omega) ?_
          refine r_aload_n rfl rfl ?_
          refine r_getR rfl (by assumption) (by assumption) ?_
          refine r_iload_n rfl rfl ?_
          refine r_aload_n rfl rfl ?_
          refine r_getR rfl (by assumption) (by assumption) ?_
          refine r_iload_n rfl rfl ?_
          refine r_iload_n rfl rfl ?_
          refine r_acopyI rfl hr3 hr3 (Nat.le_of_ble_eq_true rfl) (by omega) (by omega) (by omega) (by omega) (by omega) ?_
          refine r_ret rfl ?_
          rw [slZ_3, e4]; exact hQ
/-- the first place from k on where p holds, at most m further -/
def fstN (p : Int → Bool) : Nat → Int → Int
  | 0, k => k
  | m + 1, k => if p k then k else fstN p m (k + 1)
theorem fstN_e {p : Int → Bool} {n k : Int} (h : n ≤ k) : fstN p (n - k).toNat k = k := by rw [show (n - k).toNat = 0 by omega]; rfl
theorem fstN_hit {p : Int → Bool} {n k : Int} (h : k < n) (hp : p k = true) : fstN p (n - k).toNat k = k := by
  rw [show (n - k).toNat = (n - (k + 1)).toNat + 1 by omega]; unfold fstN; rw [hp]; rfl
theorem fstN_miss {p : Int → Bool} {n k : Int} (h : k < n) (hp : p k = false) : fstN p (n - k).toNat k = fstN p (n - (k + 1)).toNat (k + 1) := by
  rw [show (n - k).toNat = (n - (k + 1)).toNat + 1 by omega]
  conv => lhs; unfold fstN
  rw [hp]; rfl
theorem fstN_spec (p : Int → Bool) : ∀ (m : Nat) (k : Int), k ≤ fstN p m k ∧ fstN p m k ≤ k + m ∧ (fstN p m k < k + m → p (fstN p m k) = true) ∧ ∀ t, k ≤ t → t < fstN p m k → p t = false
  | 0, k => ⟨Int.le_refl _, by show k ≤ _; omega, fun h => absurd h (by show ¬ k < _; omega), fun t h1 h2 => absurd h2 (by show ¬ t < k; omega)⟩
  | m + 1, k => by
    unfold fstN
    by_cases h : p k = true
    · rw [if_pos h]; exact ⟨Int.le_refl _, by omega, fun _ => h, fun t h1 h2 => by omega⟩
    · rw [if_neg h]
      obtain ⟨q1, q2, q3, q4⟩ := fstN_spec p m (k + 1)
      refine ⟨by omega, by omega, fun q => q3 (by omega), fun t h1 h2 => ?_⟩
      by_cases e : t = k
      · rw [e]; exact Bool.eq_false_iff.mpr h
      · exact q4 t (by omega) h2
/-- where a place stands, or would stand -/
def lexb (a b c e : Int) : Bool := decide (a < c) || (decide (a = c) && decide (b < e))
theorem lexb_t {a b c e : Int} : lexb a b c e = true ↔ lexlt a b c e := by unfold lexb lexlt; simp
theorem lexb_f {a b c e : Int} : lexb a b c e = false ↔ ¬ lexlt a b c e := by rw [← lexb_t]; simp
theorem nlex_f {a b c e : Int} : (!lexb a b c e) = true ↔ ¬ lexlt a b c e := by rw [← lexb_f]; cases lexb a b c e <;> simp
theorem nlex_t {a b c e : Int} : (!lexb a b c e) = false ↔ lexlt a b c e := by rw [← lexb_t]; cases lexb a b c e <;> simp
def psn (n : Int) (I J : Int → Int) (a b : Int) : Int := fstN (fun t => !lexb (I t) (J t) a b) n.toNat 0
def thr (n : Int) (I J : Int → Int) (a b : Int) : Prop := psn n I J a b < n ∧ I (psn n I J a b) = a ∧ J (psn n I J a b) = b
def insF (f : Int → Int) (k x : Int) : Int → Int := fun t => if t < k then f t else if t = k then x else f (t - 1)
def updF (f : Int → Int) (k x : Int) : Int → Int := fun t => if t = k then x else f t
def putP (z z' : ZM) (h : Nat) (n : Int) (I J V : Int → Int) (a b v : Int) : Prop := (∀ c, c ≠ h → c ≠ h + 1 → c ≠ h + 2 → c ≠ h + 3 → z' c = z c) ∧ z' h 3 = z h 3 ∧ z' h 5 = 0 ∧
  (thr n I J a b → FH z' h n I J (updF V (psn n I J a b) v)) ∧ (¬ thr n I J a b → FH z' h (n + 1) (insF I (psn n I J a b) a) (insF J (psn n I J a b) b) (insF V (psn n I J a b) v))
set_option maxHeartbeats 2000000 in
theorem put_post1 {z : ZM} {h : Nat} {n : Int} {I J V : Int → Int} {a b v : Int} (hT : FH z h n I J V) (h1 : thr n I J a b) : putP z (zput (zput (zput (zput z (h + 1) (psn n I J a b) a) (h + 2) (psn n I J a b) b) (h + 3) (psn n I J a b) v) h 5 0) h n I J V a b v := by
  obtain ⟨e4, hel⟩ := hT
  refine ⟨fun c c0 c1 c2 c3 => ?_, ?_, ?_, fun _ => ⟨?_, fun t t0 t1 => ?_⟩, fun q => absurd h1 q⟩
  · funext k; unfold zput; simp (disch := omega) only [if_pos, if_neg, ↓reduceIte, true_and, and_true, true_or, or_true, and_self]
  · unfold zput; simp (disch := omega) only [if_pos, if_neg, ↓reduceIte, true_and, and_true, true_or, or_true, and_self]
  · unfold zput; simp (disch := omega) only [if_pos, if_neg, ↓reduceIte, true_and, and_true, true_or, or_true, and_self]
  · unfold zput; simp (disch := omega) only [if_pos, if_neg, ↓reduceIte, true_and, and_true, true_or, or_true, and_self]; exact e4
  · obtain ⟨g1, g2, g3⟩ := hel t t0 t1
    obtain ⟨-, i1, i2⟩ := h1
    generalize psn n I J a b = q at i1 i2 ⊢
    unfold zput updF
    by_cases e : t = q
    · subst e
      simp (disch := omega) only [if_pos, if_neg, ↓reduceIte, true_and, and_true, true_or, or_true, and_self]
      exact ⟨i1.symm, i2.symm⟩
    · simp (disch := omega) only [if_pos, if_neg, ↓reduceIte, true_and, and_true, true_or, or_true, and_self]
      exact ⟨g1, g2, g3⟩
set_option maxHeartbeats 2000000 in
theorem put_post2 {z : ZM} {h : Nat} {n : Int} {I J V : Int → Int} {a b v : Int} (hn : 0 ≤ n) (hT : FH z h n I J V) (h1 : ¬ thr n I J a b) :
    putP z (zput (zput (zput (zput (zput (slZ z h (psn n I J a b) (psn n I J a b + 1) (n - psn n I J a b)) h 4 (n + 1)) (h + 1) (psn n I J a b) a) (h + 2) (psn n I J a b) b) (h + 3) (psn n I J a b) v) h 5 0) h n I J V a b v := by
  obtain ⟨e4, hel⟩ := hT
  have hp := fstN_spec (fun t => !lexb (I t) (J t) a b) n.toNat 0
  refine ⟨fun c c0 c1 c2 c3 => ?_, ?_, ?_, fun q => absurd q h1, fun _ => ⟨?_, fun t t0 t1 => ?_⟩⟩
  · funext k; unfold zput slZ; simp (disch := omega) only [if_pos, if_neg, ↓reduceIte, true_and, and_true, true_or, or_true, and_self]
  · unfold zput slZ; simp (disch := omega) only [if_pos, if_neg, ↓reduceIte, true_and, and_true, true_or, or_true, and_self]
  · unfold zput; simp (disch := omega) only [if_pos, if_neg, ↓reduceIte, true_and, and_true, true_or, or_true, and_self]
  · unfold zput slZ; simp (disch := omega) only [if_pos, if_neg, ↓reduceIte, true_and, and_true, true_or, or_true, and_self]
  · have hq : 0 ≤ psn n I J a b ∧ psn n I J a b ≤ n := by unfold psn; omega
    generalize psn n I J a b = q at hq ⊢
    unfold zput slZ insF
    rcases Int.lt_trichotomy t q with e | e | e
    · obtain ⟨g1, g2, g3⟩ := hel t t0 (by omega)
      simp (disch := omega) only [if_pos, if_neg, ↓reduceIte, true_and, and_true, true_or, or_true, and_self]
      exact ⟨g1, g2, g3⟩
    · subst e
      simp (disch := omega) only [if_pos, if_neg, ↓reduceIte, true_and, and_true, true_or, or_true, and_self]
    · obtain ⟨g1, g2, g3⟩ := hel (t - 1) (by omega) (by omega)
      simp (disch := omega) only [if_pos, if_neg, ↓reduceIte, true_and, and_true, true_or, or_true, and_self]
      rw [show q + (t - (q + 1)) = t - 1 by omega]
      exact ⟨g1, g2, g3⟩
theorem w_put {X : PX} {d : Nat} {S : SS} {zI zL : ZM} {Q : PQ} {h : Nat} {n : Int} {I J V : Int → Int} (hF : isForm S h) (hT : FH zI h n I J V) (hR : FR n I J V) {a b v : Int} (ha : 0 ≤ a ∧ a ≤ 8) (hb : 0 ≤ b ∧ b ≤ 8) (h12 : thr n I J a b ∨ n < 40) (hQ : ∀ z, putP zI z h n I J V a b v → Q none S z zL) : wpM X (d + 2) fForm_put [pR h, pI a, pI b, pI v] S zI zL Q := by
  have hF0 := hF
  have hT0 := hT
  obtain ⟨hob, ⟨hr1, hr2, hr3⟩, hf1, hf2, hf3⟩ := hF
  obtain ⟨e4, hel⟩ := hT
  obtain ⟨hn0, hn40, hrg⟩ := hR
  have hp := fstN_spec (fun t => !lexb (I t) (J t) a b) n.toNat 0
  have hq : 0 ≤ psn n I J a b ∧ psn n I J a b ≤ n := by unfold psn; omega
  have i1 : inI 1 := by unfold inI; omega
  have e41 : slZ zI h (psn n I J a b) (psn n I J a b + 1) (n - psn n I J a b) h 4 = n := by unfold slZ; simp (disch := omega) only [if_pos, if_neg, ↓reduceIte, true_and, and_true, true_or, or_true, and_self]; exact e4
  have tT : thr n I J a b → Run X (d + 1) c_Form_put 65 [some (pR h), some (pI a), some (pI b), some (pI v), some (pI (psn n I J a b)), some (pI 1)] [] S zI zL 0 0 Q := by
    intro h1
    have h2 := h1.1
    refine r_aload_n rfl rfl ?_
    refine r_getR rfl (by assumption) (by assumption) ?_
    refine r_iload rfl rfl ?_
    refine r_iload_n rfl rfl ?_
    refine r_iast rfl (by assumption) (by omega) (by omega) ?_
    refine r_aload_n rfl rfl ?_
    refine r_getR rfl (by assumption) (by assumption) ?_
    refine r_iload rfl rfl ?_
    refine r_iload_n rfl rfl ?_
    refine r_iast rfl (by assumption) (by omega) (by omega) ?_
    refine r_aload_n rfl rfl ?_
    refine r_getR rfl (by assumption) (by assumption) ?_
    refine r_iload rfl rfl ?_
    refine r_iload_n rfl rfl ?_
    refine r_iast rfl (by assumption) (by omega) (by omega) ?_
    refine r_aload_n rfl rfl ?_
    refine r_iconst rfl ?_
    refine r_putZ rfl (by assumption) (by first | exact Or.inl rfl | exact Or.inr rfl) ?_
    refine r_ret rfl ?_
    exact hQ _ (put_post1 hT0 h1)
  have tF : ¬ thr n I J a b → Run X (d + 1) c_Form_put 48 [some (pR h), some (pI a), some (pI b), some (pI v), some (pI (psn n I J a b)), some (pI 0)] [] S zI zL 0 0 Q := by
    intro h1
    have h2 : n < 40 := h12.resolve_left h1
    refine r_aload_n rfl rfl ?_
    refine r_getI rfl (by assumption) ?_
    refine r_bipush rfl ?_
    refine r_icmp_lt rfl (by unfold inI; omega) (by unfold inI; omega) (fun h51 => ?_) (fun h51 => ?_)
    · skip
      refine r_aload_n rfl rfl ?_
      refine r_iload rfl rfl ?_
      refine r_iload rfl rfl ?_
      refine r_iconst rfl ?_
      refine r_iadd rfl ?_
      refine r_cV3 rfl (by assumption) (Nat.le_of_ble_eq_true rfl) rfl rfl (w_slide hF0 e4 hq.1 (by omega) (by omega) (by omega) hn40 hn0 (by omega) ?_)
      refine r_aload_n rfl rfl ?_
      refine r_dupR rfl ?_
      refine r_getI rfl (by assumption) ?_
      refine r_iconst rfl ?_
      refine r_iadd rfl ?_
      refine r_putI rfl (by assumption) ?_
      refine r_aload_n rfl rfl ?_
      refine r_getR rfl (by assumption) (by assumption) ?_
      refine r_iload rfl rfl ?_
      refine r_iload_n rfl rfl ?_
      refine r_iast rfl (by assumption) (by omega) (by omega) ?_
      refine r_aload_n rfl rfl ?_
      refine r_getR rfl (by assumption) (by assumption) ?_
      refine r_iload rfl rfl ?_
      refine r_iload_n rfl rfl ?_
      refine r_iast rfl (by assumption) (by omega) (by omega) ?_
      refine r_aload_n rfl rfl ?_
      refine r_getR rfl (by assumption) (by assumption) ?_
      refine r_iload rfl rfl ?_
      refine r_iload_n rfl rfl ?_
      refine r_iast rfl (by assumption) (by omega) (by omega) ?_
      refine r_aload_n rfl rfl ?_
      refine r_iconst rfl ?_
      refine r_putZ rfl (by assumption) (by first | exact Or.inl rfl | exact Or.inr rfl) ?_
      refine r_ret rfl ?_
      rw [e41]; exact hQ _ (put_post2 hn0 hT0 h1)
    · skip
      exact absurd h51 (by omega)
  have tail : Run X (d + 1) c_Form_put 26 [some (pR h), some (pI a), some (pI b), some (pI v), some (pI (psn n I J a b)), none] [] S zI zL 0 0 Q := by
    have hthr : thr n I J a b ↔ (psn n I J a b < n ∧ I (psn n I J a b) = a ∧ J (psn n I J a b) = b) := Iff.rfl
    refine r_iload rfl rfl ?_
    refine r_aload_n rfl rfl ?_
    refine r_getI rfl (by assumption) ?_
    refine r_icmp_ge rfl (by unfold inI; omega) (by unfold inI; omega) (fun h29 => ?_) (fun h29 => ?_)
    · skip
      refine r_iconst rfl ?_
      refine r_istore rfl (Nat.le_of_ble_eq_true rfl) ?_
      refine r_iload rfl rfl ?_
      exact r_if_ne rfl in0 (fun h => absurd rfl h) (fun _ => tF (fun z => by have := hthr.mp z; omega))
    · skip
      have ht := hel (psn n I J a b) hq.1 (by omega)
      have hg := hrg (psn n I J a b) hq.1 (by omega)
      refine r_aload_n rfl rfl ?_
      refine r_getR rfl (by assumption) (by assumption) ?_
      refine r_iload rfl rfl ?_
      refine r_iald rfl (by assumption) (by omega) (by omega) ?_
      refine r_iload_n rfl rfl ?_
      refine r_icmp_ne rfl (by unfold inI; omega) (by unfold inI; omega) (fun h35 => ?_) (fun h35 => ?_)
      · skip
        refine r_iconst rfl ?_
        refine r_istore rfl (Nat.le_of_ble_eq_true rfl) ?_
        refine r_iload rfl rfl ?_
        exact r_if_ne rfl in0 (fun h => absurd rfl h) (fun _ => tF (fun z => by have := hthr.mp z; omega))
      · skip
        refine r_aload_n rfl rfl ?_
        refine r_getR rfl (by assumption) (by assumption) ?_
        refine r_iload rfl rfl ?_
        refine r_iald rfl (by assumption) (by omega) (by omega) ?_
        refine r_iload_n rfl rfl ?_
        refine r_icmp_ne rfl (by unfold inI; omega) (by unfold inI; omega) (fun h41 => ?_) (fun h41 => ?_)
        · skip
          refine r_iconst rfl ?_
          refine r_istore rfl (Nat.le_of_ble_eq_true rfl) ?_
          refine r_iload rfl rfl ?_
          exact r_if_ne rfl in0 (fun h => absurd rfl h) (fun _ => tF (fun z => by have := hthr.mp z; omega))
        · skip
          refine r_iconst rfl ?_
          refine r_goto rfl ?_
          refine r_istore rfl (Nat.le_of_ble_eq_true rfl) ?_
          refine r_iload rfl rfl ?_
          exact r_if_ne rfl i1 (fun _ => tT (hthr.mpr (by omega))) (fun h => absurd h (by decide))
  have key : ∀ k : Int, k ≤ n → 0 ≤ k → fstN (fun t => !lexb (I t) (J t) a b) (n - k).toNat k = psn n I J a b → Run X (d + 1) c_Form_put 2 [some (pR h), some (pI a), some (pI b), some (pI v), some (pI k), none] [] S zI zL 0 0 Q := by
    refine loop_up _ n (fun k hk ih h0 hs => ?_)
    refine r_iload rfl rfl ?_
    refine r_aload_n rfl rfl ?_
    refine r_getI rfl (by assumption) ?_
    refine r_icmp_ge rfl (by unfold inI; omega) (by unfold inI; omega) (fun h5 => ?_) (fun h5 => ?_)
    · skip
      rw [fstN_e (by omega)] at hs
      rw [hs]; exact tail
    · skip
      have ht := hel k h0 (by omega)
      have hg := hrg k h0 (by omega)
      refine r_aload_n rfl rfl ?_
      refine r_getR rfl (by assumption) (by assumption) ?_
      refine r_iload rfl rfl ?_
      refine r_iald rfl (by assumption) (by omega) (by omega) ?_
      refine r_iload_n rfl rfl ?_
      refine r_icmp_lt rfl (by unfold inI; omega) (by unfold inI; omega) (fun h11 => ?_) (fun h11 => ?_)
      · skip
        refine r_iinc rfl rfl ?_
        refine r_goto rfl ?_
        exact ih (by omega) (by omega) (by rw [← fstN_miss (by omega) (by rw [nlex_t]; unfold lexlt; omega)]; exact hs)
      · skip
        refine r_aload_n rfl rfl ?_
        refine r_getR rfl (by assumption) (by assumption) ?_
        refine r_iload rfl rfl ?_
        refine r_iald rfl (by assumption) (by omega) (by omega) ?_
        refine r_iload_n rfl rfl ?_
        refine r_icmp_ne rfl (by unfold inI; omega) (by unfold inI; omega) (fun h17 => ?_) (fun h17 => ?_)
        · skip
          rw [fstN_hit (by omega) (by rw [nlex_f]; unfold lexlt; omega)] at hs
          rw [hs]; exact tail
        · skip
          refine r_aload_n rfl rfl ?_
          refine r_getR rfl (by assumption) (by assumption) ?_
          refine r_iload rfl rfl ?_
          refine r_iald rfl (by assumption) (by omega) (by omega) ?_
          refine r_iload_n rfl rfl ?_
          refine r_icmp_ge rfl (by unfold inI; omega) (by unfold inI; omega) (fun h23 => ?_) (fun h23 => ?_)
          · skip
            rw [fstN_hit (by omega) (by rw [nlex_f]; unfold lexlt; omega)] at hs
            rw [hs]; exact tail
          · skip
            refine r_iinc rfl rfl ?_
            refine r_goto rfl ?_
            exact ih (by omega) (by omega) (by rw [← fstN_miss (by omega) (by rw [nlex_t]; unfold lexlt; omega)]; exact hs)
  refine wp_in (C := c_Form_put) (ls := [some (pR h), some (pI a), some (pI b), some (pI v), none, none]) rfl rfl rfl rfl rfl ?_
  refine r_iconst rfl ?_
  refine r_istore rfl (Nat.le_of_ble_eq_true rfl) ?_
  exact key 0 hn0 (Int.le_refl _) (by rw [Int.sub_zero]; rfl)
