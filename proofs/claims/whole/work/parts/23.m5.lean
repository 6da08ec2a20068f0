def delF (f : Int → Int) (k : Int) : Int → Int := fun t => if t < k then f t else f (t + 1)
/-- a TERM gone -/
def remP (z z' : ZM) (h : Nat) (n : Int) (I J V : Int → Int) (k : Int) : Prop := (∀ c, c ≠ h → c ≠ h + 1 → c ≠ h + 2 → c ≠ h + 3 → z' c = z c) ∧ z' h 3 = z h 3 ∧ z' h 5 = 0 ∧ FH z' h (n - 1) (delF I k) (delF J k) (delF V k)
theorem w_remove {X : PX} {d : Nat} {S : SS} {zI zL : ZM} {Q : PQ} {h : Nat} {n : Int} {I J V : Int → Int} (hF : isForm S h) (hT : FH zI h n I J V) (hR : FR n I J V) {k : Int} (h0 : 0 ≤ k) (h1 : k < n) (hQ : ∀ z, remP zI z h n I J V k → Q none S z zL) : wpM X (d + 2) fForm_remove [pR h, pI k] S zI zL Q := by
  have hF0 := hF
  have hT0 := hT
  obtain ⟨hob, ⟨hr1, hr2, hr3⟩, hf1, hf2, hf3⟩ := hF
  obtain ⟨e4, hel⟩ := hT
  obtain ⟨hn0, hn40, hrg⟩ := hR
  have e41 : slZ zI h (k + 1) k (n - (k + 1)) h 4 = n := by unfold slZ; simp (disch := omega) only [if_pos, if_neg, ↓reduceIte, true_and, and_true, true_or, or_true, and_self]; exact e4
  have fin : remP zI (zput (zput (slZ zI h (k + 1) k (n - (k + 1))) h 4 (n - 1)) h 5 0) h n I J V k := by
    refine ⟨fun c c0 c1 c2 c3 => ?_, ?_, ?_, ?_, fun t t0 t1 => ?_⟩
    · funext k; unfold zput slZ; simp (disch := omega) only [if_pos, if_neg, ↓reduceIte, true_and, and_true, true_or, or_true, and_self]
    · unfold zput slZ; simp (disch := omega) only [if_pos, if_neg, ↓reduceIte, true_and, and_true, true_or, or_true, and_self]
    · unfold zput; simp (disch := omega) only [if_pos, if_neg, ↓reduceIte, true_and, and_true, true_or, or_true, and_self]
    · unfold zput slZ; simp (disch := omega) only [if_pos, if_neg, ↓reduceIte, true_and, and_true, true_or, or_true, and_self]
    · unfold zput slZ delF
      by_cases e : t < k
      · obtain ⟨g1, g2, g3⟩ := hel t t0 (by omega)
        simp (disch := omega) only [if_pos, if_neg, ↓reduceIte, true_and, and_true, true_or, or_true, and_self]
        exact ⟨g1, g2, g3⟩
      · obtain ⟨g1, g2, g3⟩ := hel (t + 1) (by omega) (by omega)
        simp (disch := omega) only [if_pos, if_neg, ↓reduceIte, true_and, and_true, true_or, or_true, and_self]
        rw [show k + 1 + (t - k) = t + 1 by omega]
        exact ⟨g1, g2, g3⟩
  refine wp_in (C := c_Form_remove) (ls := [some (pR h), some (pI k)]) rfl rfl rfl rfl rfl ?_
  refine r_aload_n rfl rfl ?_
  refine r_iload_n rfl rfl ?_
  refine r_iconst rfl ?_
  refine r_iadd rfl ?_
  refine r_iload_n rfl rfl ?_
  refine r_cV3 rfl (by assumption) (Nat.le_of_ble_eq_true rfl) rfl rfl (w_slide hF0 e4 (by omega) h0 (by omega) (by omega) hn40 hn0 (by omega) ?_)
  refine r_aload_n rfl rfl ?_
  refine r_dupR rfl ?_
  refine r_getI rfl (by assumption) ?_
  refine r_iconst rfl ?_
  refine r_isub rfl ?_
  refine r_putI rfl (by assumption) ?_
  refine r_aload_n rfl rfl ?_
  refine r_iconst rfl ?_
  refine r_putZ rfl (by assumption) (by first | exact Or.inl rfl | exact Or.inr rfl) ?_
  refine r_ret rfl ?_
  rw [e41]; exact hQ _ fin
/-! DRAFTS: a table of places -/
def isDraft (S : SS) (q : Nat) : Prop := ob S q 2 ∧ row S 12 (q + 1) 81 ∧ S.2 q 0 = some (q + 1)
def DH (z : ZM) (q : Nat) (G : Int → Option Int) : Prop := ∀ p, 0 ≤ p → p < 81 → z (q + 1) p = (G p).getD 1000000
def DR (G : Int → Option Int) (B : Int) : Prop := ∀ p v, G p = some v → -B ≤ v ∧ v ≤ B
def gl (G : Int → Option Int) (p v : Int) : Int → Option Int := fun k => if k = p then some (match G p with | none => v | some u => min u v) else G k
theorem DR_gl {G : Int → Option Int} {B p v : Int} (h : DR G B) (hv : -B ≤ v ∧ v ≤ B) : DR (gl G p v) B := by
  intro k u hu
  unfold gl at hu
  split at hu
  · cases hG : G p with
    | none => rw [hG] at hu; cases hu; exact hv
    | some y => rw [hG] at hu; cases hu; have := h p y hG; dsimp only; omega
  · exact h k u hu
theorem DH_b {z : ZM} {q : Nat} {G : Int → Option Int} {B : Int} (h : DH z q G) (hB : DR G B) (h1 : B ≤ 1000000) {p : Int} (h0 : 0 ≤ p) (h81 : p < 81) : -1000000 ≤ z (q + 1) p ∧ z (q + 1) p ≤ 1000000 := by
  rw [h p h0 h81]
  cases hG : G p with
  | none => exact ⟨by decide, by decide⟩
  | some v => have := hB p v hG; show -1000000 ≤ v ∧ v ≤ 1000000; omega
theorem DH_put {z : ZM} {q : Nat} {G : Int → Option Int} {B p v : Int} (h : DH z q G) (hB : DR G B) (h1 : B < 1000000) (h0 : 0 ≤ p) (h81 : p < 81) (hv : v ≤ B) : DH (zput z (q + 1) p (min (z (q + 1) p) v)) q (gl G p v) := by
  intro k k0 k1
  unfold zput gl
  by_cases e : k = p
  · subst e
    rw [if_pos ⟨rfl, rfl⟩, if_pos rfl, h k h0 h81]
    cases hG : G k with
    | none => show min 1000000 v = v; omega
    | some y => rfl
  · rw [if_neg (fun z => e z.2), if_neg e]; exact h k k0 k1
theorem w_clear {X : PX} {d : Nat} {S : SS} {zI zL : ZM} {Q : PQ} {q : Nat} (hD : isDraft S q) (hQ : Q none S (zfill zI (q + 1) 81 1000000) zL) : wpM X (d + 2) fDraft_clear [pR q] S zI zL Q := by
  obtain ⟨hob, hr, hf⟩ := hD
  refine wp_in (C := c_Draft_clear) (ls := [some (pR q)]) rfl rfl rfl rfl rfl ?_
  refine r_aload_n rfl rfl ?_
  refine r_getR rfl (by assumption) (by assumption) ?_
  refine r_ldc rfl ?_
  refine r_cS2 rfl (by decide) (Nat.le_of_ble_eq_true rfl) rfl rfl (w_fillI hr ?_)
  refine r_ret rfl ?_
  exact hQ
theorem DH_clear (z : ZM) (q : Nat) : DH (zfill z (q + 1) 81 1000000) q (fun _ => none) := by
  intro p h0 h1
  unfold zfill
  rw [if_pos ⟨rfl, h0, h1⟩]; rfl
theorem zfill_o {z : ZM} {h c : Nat} {n v : Int} (hc : c ≠ h) : zfill z h n v c = z c := by funext k; unfold zfill; rw [if_neg (fun q => hc q.1)]
theorem w_has {X : PX} {d : Nat} {S : SS} {zI zL : ZM} {Q : PQ} {q : Nat} {G : Int → Option Int} {B p : Int} (hD : isDraft S q) (hG : DH zI q G) (hB : DR G B) (h1 : B < 1000000) (h0 : 0 ≤ p) (h81 : p < 81) (hQ : Q (some (pI (if (G p).isSome then 1 else 0))) S zI zL) : wpM X (d + 1) fDraft_has [pR q, pI p] S zI zL Q := by
  obtain ⟨hob, hr, hf⟩ := hD
  have hb := DH_b hG hB (by omega) h0 h81
  have he := hG p h0 h81
  have hsome : zI (q + 1) p = 1000000 ↔ G p = none := by
    rw [he]
    cases hx : G p with
    | none => simp
    | some v => have := hB p v hx; simp; omega
  refine wp_in (C := c_Draft_has) (ls := [some (pR q), some (pI p)]) rfl rfl rfl rfl rfl ?_
  refine r_aload_n rfl rfl ?_
  refine r_getR rfl (by assumption) (by assumption) ?_
  refine r_iload_n rfl rfl ?_
  refine r_iald rfl (by assumption) (by omega) (by omega) ?_
  refine r_ldc rfl ?_
  refine r_icmp_eq rfl (by unfold inI; omega) (by unfold inI; omega) (fun h5 => ?_) (fun h5 => ?_)
  · skip
    refine r_iconst rfl ?_
    refine r_zret rfl (by first | exact Or.inl rfl | exact Or.inr rfl) ?_
    rw [hsome.mp h5] at hQ; exact hQ
  · skip
    refine r_iconst rfl ?_
    refine r_goto rfl ?_
    refine r_zret rfl (by first | exact Or.inl rfl | exact Or.inr rfl) ?_
    rw [if_pos (by cases hx : G p with
      | none => exact absurd (hsome.mpr hx) h5
      | some v => rfl)] at hQ; exact hQ
theorem w_putLeast {X : PX} {d : Nat} {S : SS} {zI zL : ZM} {Q : PQ} {q : Nat} {i j v : Int} (hD : isDraft S q) (hi : 0 ≤ i ∧ i ≤ 8) (hj : 0 ≤ j ∧ j ≤ 8) (hb : inI (zI (q + 1) (i * 9 + j))) (hv : inI v) (hQ : Q none S (zput zI (q + 1) (i * 9 + j) (min (zI (q + 1) (i * 9 + j)) v)) zL) : wpM X (d + 2) fDraft_putLeast [pR q, pI i, pI j, pI v] S zI zL Q := by
  obtain ⟨hob, hr, hf⟩ := hD
  refine wp_in (C := c_Draft_putLeast) (ls := [some (pR q), some (pI i), some (pI j), some (pI v), none]) rfl rfl rfl rfl rfl ?_
  refine r_iload_n rfl rfl ?_
  refine r_bipush rfl ?_
  refine r_imul rfl ?_
  refine r_iload_n rfl rfl ?_
  refine r_iadd rfl ?_
  refine r_istore rfl (Nat.le_of_ble_eq_true rfl) ?_
  refine r_aload_n rfl rfl ?_
  refine r_getR rfl (by assumption) (by assumption) ?_
  refine r_iload rfl rfl ?_
  refine r_aload_n rfl rfl ?_
  refine r_getR rfl (by assumption) (by assumption) ?_
  refine r_iload rfl rfl ?_
  refine r_iald rfl (by assumption) (by omega) (by omega) ?_
  refine r_iload_n rfl rfl ?_
  refine r_cS2 rfl (by decide) (Nat.le_of_ble_eq_true rfl) rfl rfl (w_min hb hv ?_)
  refine r_iast rfl (by assumption) (by omega) (by omega) ?_
  refine r_ret rfl ?_
  exact hQ
def loadT (I J V : Int → Int) : Nat → Int → (Int → Option Int) → (Int → Option Int)
  | 0, _, G => G
  | m + 1, k, G => loadT I J V m (k + 1) (gl G (I k * 9 + J k) (V k))
theorem loadT_s {I J V : Int → Int} {n k : Int} {G : Int → Option Int} (h : k < n) : loadT I J V (n - k).toNat k G = loadT I J V (n - (k + 1)).toNat (k + 1) (gl G (I k * 9 + J k) (V k)) := by
  rw [show (n - k).toNat = (n - (k + 1)).toNat + 1 by omega]; rfl
theorem loadT_e {I J V : Int → Int} {n k : Int} {G : Int → Option Int} (h : n ≤ k) : loadT I J V (n - k).toNat k G = G := by rw [show (n - k).toNat = 0 by omega]; rfl
def loadG (n : Int) (I J V : Int → Int) : Int → Option Int := loadT I J V n.toNat 0 (fun _ => none)
theorem FH_frame {z z' : ZM} {h q : Nat} {n : Int} {I J V : Int → Int} (hz : ∀ c, c ≠ q → z' c = z c) (hq : q < h) (hT : FH z h n I J V) : FH z' h n I J V := by
  obtain ⟨e, he⟩ := hT
  unfold FH
  rw [hz h (by omega), hz (h + 1) (by omega), hz (h + 2) (by omega), hz (h + 3) (by omega)]
  exact ⟨e, he⟩
theorem DR_load {I J V : Int → Int} {B : Int} : ∀ (m : Nat) (k : Int) (G : Int → Option Int), DR G B → (∀ t, k ≤ t → t < k + m → -B ≤ V t ∧ V t ≤ B) → DR (loadT I J V m k G) B
  | 0, _, _, h, _ => h
  | m + 1, k, G, h, hv => DR_load m (k + 1) _ (DR_gl h (hv k (Int.le_refl _) (by omega))) (fun t q1 q2 => hv t (by omega) (by omega))
def dP (z z' : ZM) (q : Nat) (G : Int → Option Int) : Prop := (∀ c, c ≠ q + 1 → z' c = z c) ∧ DH z' q G
theorem w_load {X : PX} {d : Nat} {S : SS} {zI zL : ZM} {Q : PQ} {h : Nat} {n : Int} {I J V : Int → Int} (hF : isForm S h) (hT : FH zI h n I J V) (hR : FR n I J V) {q : Nat} (hD : isDraft S q) (hqh : q + 1 < h) (hQ : ∀ z, dP zI z q (loadG n I J V) → Q none S z zL) : wpM X (d + 3) fDraft_load [pR q, pR h] S zI zL Q := by
  have hT0 := hT
  obtain ⟨hob, ⟨hr1, hr2, hr3⟩, hf1, hf2, hf3⟩ := hF
  obtain ⟨e4, hel⟩ := hT
  obtain ⟨hn0, hn40, hrg⟩ := hR
  have key : ∀ k : Int, k ≤ n → 0 ≤ k → ∀ (z : ZM) (G : Int → Option Int), (∀ c, c ≠ q + 1 → z c = zI c) → DH z q G → DR G 200 → loadT I J V (n - k).toNat k G = loadG n I J V → Run X (d + 2) c_Draft_load 4 [some (pR q), some (pR h), some (pI k)] [] S z zL 0 0 Q := by
    refine loop_up _ n (fun k hk ih h0 z G hz hG hB hs => ?_)
    obtain ⟨e4, hel⟩ := FH_frame hz hqh hT0
    refine r_iload_n rfl rfl ?_
    refine r_aload_n rfl rfl ?_
    refine r_getI rfl (by assumption) ?_
    refine r_icmp_ge rfl (by unfold inI; omega) (by unfold inI; omega) (fun h7 => ?_) (fun h7 => ?_)
    · skip
      refine r_ret rfl ?_
      rw [loadT_e (by omega)] at hs; subst hs; exact hQ _ ⟨hz, hG⟩
    · skip
      obtain ⟨g1, g2, g3⟩ := hel k h0 (by omega)
      have hg := hrg k h0 (by omega)
      have hb := DH_b hG hB (by omega) (p := I k * 9 + J k) (by omega) (by omega)
      refine r_aload_n rfl rfl ?_
      refine r_aload_n rfl rfl ?_
      refine r_getR rfl (by assumption) (by assumption) ?_
      refine r_iload_n rfl rfl ?_
      refine r_iald rfl (by assumption) (by omega) (by omega) ?_
      refine r_aload_n rfl rfl ?_
      refine r_getR rfl (by assumption) (by assumption) ?_
      refine r_iload_n rfl rfl ?_
      refine r_iald rfl (by assumption) (by omega) (by omega) ?_
      refine r_aload_n rfl rfl ?_
      refine r_getR rfl (by assumption) (by assumption) ?_
      refine r_iload_n rfl rfl ?_
      refine r_iald rfl (by assumption) (by omega) (by omega) ?_
      rw [g1, g2, g3]
      refine r_cV4 rfl hD.1 (Nat.le_of_ble_eq_true rfl) rfl rfl (w_putLeast hD (by omega) (by omega) (by unfold inI; omega) (by unfold inI; omega) ?_)
      refine r_iinc rfl rfl ?_
      refine r_goto rfl ?_
      exact ih (by omega) (by omega) _ _ (fun c hc => by rw [← hz c hc]; exact zput_row hc) (DH_put hG hB (by omega) (by omega) (by omega) (by omega)) (DR_gl hB (by omega)) (by rw [← loadT_s (by omega)]; exact hs)
  refine wp_in (C := c_Draft_load) (ls := [some (pR q), some (pR h), none]) rfl rfl rfl rfl rfl ?_
  refine r_aload_n rfl rfl ?_
  refine r_cV1 rfl hD.1 (Nat.le_of_ble_eq_true rfl) rfl rfl (w_clear hD ?_)
  refine r_iconst rfl ?_
  refine r_istore_n rfl (Nat.le_of_ble_eq_true rfl) ?_
  exact key 0 hn0 (Int.le_refl _) _ _ (fun c hc => zfill_o hc) (DH_clear _ _) (fun p v h => by cases h) (by rw [Int.sub_zero]; rfl)
