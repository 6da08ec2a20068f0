/-! DRAFTS: sums, shifts, what fits, pouring -/
theorem td9 {p : Int} (h : 0 ≤ p) : p.tdiv 9 = p / 9 := Int.tdiv_eq_ediv_of_nonneg h
theorem tm9 {p : Int} (h : 0 ≤ p) : p.tmod 9 = p % 9 := Int.tmod_eq_emod_of_nonneg h
def bey1 (p i j : Int) : Bool := decide (8 < p / 9 + i) || decide (8 < p % 9 + j)
theorem bey1_t {p i j : Int} : bey1 p i j = true ↔ (8 < p / 9 + i ∨ 8 < p % 9 + j) := by unfold bey1; simp
theorem bey1_f {p i j : Int} : bey1 p i j = false ↔ (p / 9 + i ≤ 8 ∧ p % 9 + j ≤ 8) := by
  have := bey1_t (p := p) (i := i) (j := j)
  cases h : bey1 p i j
  · simp; rw [h] at this; simp at this; omega
  · simp; rw [h] at this; simp at this; omega
def addT (p u : Int) (I J V : Int → Int) : Nat → Int → (Int → Option Int) → (Int → Option Int)
  | 0, _, G => G
  | m + 1, k, G => addT p u I J V m (k + 1) (if bey1 p (I k) (J k) then G else gl G ((p / 9 + I k) * 9 + (p % 9 + J k)) (u + V k))
def beyT (p : Int) (I J : Int → Int) : Nat → Int → Bool
  | 0, _ => false
  | m + 1, k => bey1 p (I k) (J k) || beyT p I J m (k + 1)
theorem addT_s {p u : Int} {I J V : Int → Int} {n k : Int} {G : Int → Option Int} (h : k < n) (hb : bey1 p (I k) (J k) = false) : addT p u I J V (n - k).toNat k G = addT p u I J V (n - (k + 1)).toNat (k + 1) (gl G ((p / 9 + I k) * 9 + (p % 9 + J k)) (u + V k)) := by
  rw [show (n - k).toNat = (n - (k + 1)).toNat + 1 by omega]
  show addT p u I J V _ (k + 1) (if bey1 p (I k) (J k) then G else _) = _
  rw [hb]; rfl
theorem addT_e {p u : Int} {I J V : Int → Int} {n k : Int} {G : Int → Option Int} (h : n ≤ k) : addT p u I J V (n - k).toNat k G = G := by rw [show (n - k).toNat = 0 by omega]; rfl
theorem beyT_s {p : Int} {I J : Int → Int} {n k : Int} (h : k < n) : beyT p I J (n - k).toNat k = (bey1 p (I k) (J k) || beyT p I J (n - (k + 1)).toNat (k + 1)) := by
  rw [show (n - k).toNat = (n - (k + 1)).toNat + 1 by omega]; rfl
theorem beyT_e {p : Int} {I J : Int → Int} {n k : Int} (h : n ≤ k) : beyT p I J (n - k).toNat k = false := by rw [show (n - k).toNat = 0 by omega]; rfl
theorem DR_addT {p u : Int} {I J V : Int → Int} {B : Int} : ∀ (m : Nat) (k : Int) (G : Int → Option Int), DR G B → (∀ t, k ≤ t → t < k + m → -B ≤ u + V t ∧ u + V t ≤ B) → DR (addT p u I J V m k G) B
  | 0, _, _, h, _ => h
  | m + 1, k, G, h, hv => by
    unfold addT
    refine DR_addT m (k + 1) _ ?_ (fun t q1 q2 => hv t (by omega) (by omega))
    split
    · exact h
    · exact DR_gl h (hv k (Int.le_refl _) (by omega))
set_option maxHeartbeats 2000000 in
theorem w_addTerm {X : PX} {d : Nat} {S : SS} {zI zL : ZM} {Q : PQ} {h : Nat} {n : Int} {I J V : Int → Int} (hF : isForm S h) (hT : FH zI h n I J V) (hR : FR n I J V) {q : Nat} {G : Int → Option Int} {B p u : Int} (hD : isDraft S q) (hqh : q + 1 < h) (hG : DH zI q G) (hB : DR G B) (h1 : B < 1000000) (hp : 0 ≤ p ∧ p < 81) (hu : -(B - 200) ≤ u ∧ u ≤ B - 200)
    (hQ0 : beyT p I J n.toNat 0 = true → ∀ z, (∀ c, c ≠ q + 1 → z c = zI c) → Q (some (pI 0)) S z zL) (hQ1 : beyT p I J n.toNat 0 = false → ∀ z, dP zI z q (addT p u I J V n.toNat 0 G) → Q (some (pI 1)) S z zL) : wpM X (d + 3) fDraft_addTerm [pR q, pI p, pI u, pR h] S zI zL Q := by
  have hT0 := hT
  obtain ⟨hob, ⟨hr1, hr2, hr3⟩, hf1, hf2, hf3⟩ := hF
  obtain ⟨e4, hel⟩ := hT
  obtain ⟨hn0, hn40, hrg⟩ := hR
  have ed := td9 hp.1
  have em := tm9 hp.1
  have i9 : inI 9 := by unfold inI; omega
  have hin : inI p := by unfold inI; omega
  have key : ∀ k : Int, k ≤ n → 0 ≤ k → ∀ (z : ZM) (G' : Int → Option Int) (x y : Option PV), (∀ c, c ≠ q + 1 → z c = zI c) → DH z q G' → DR G' B → addT p u I J V (n - k).toNat k G' = addT p u I J V n.toNat 0 G → beyT p I J (n - k).toNat k = beyT p I J n.toNat 0 → (∀ w, x ≠ some (pL w)) → Run X (d + 2) c_Draft_addTerm 2 [some (pR q), some (pI p), some (pI u), some (pR h), some (pI k), x, y] [] S z zL 0 0 Q := by
    refine loop_up _ n (fun k hk ih h0 z G' x y hz hG' hB' hs hb hx => ?_)
    obtain ⟨e4, hel⟩ := FH_frame hz hqh hT0
    refine r_iload rfl rfl ?_
    refine r_aload_n rfl rfl ?_
    refine r_getI rfl (by assumption) ?_
    refine r_icmp_ge rfl (by unfold inI; omega) (by unfold inI; omega) (fun h5 => ?_) (fun h5 => ?_)
    · skip
      refine r_iconst rfl ?_
      refine r_zret rfl (by first | exact Or.inl rfl | exact Or.inr rfl) ?_
      rw [addT_e (by omega)] at hs; rw [beyT_e (by omega)] at hb; exact hQ1 hb.symm _ ⟨hz, by rw [← hs]; exact hG'⟩
    · skip
      obtain ⟨g1, g2, g3⟩ := hel k h0 (by omega)
      have hg := hrg k h0 (by omega)
      refine r_iload_n rfl rfl ?_
      refine r_bipush rfl ?_
      refine r_idiv rfl hin i9 (by decide) ?_
      rw [ed]
      refine r_aload_n rfl rfl ?_
      refine r_getR rfl (by assumption) (by assumption) ?_
      refine r_iload rfl rfl ?_
      refine r_iald rfl (by assumption) (by omega) (by omega) ?_
      rw [g1]
      refine r_iadd rfl ?_
      refine r_istore rfl (Nat.le_of_ble_eq_true rfl) ?_
      refine r_iload_n rfl rfl ?_
      refine r_bipush rfl ?_
      refine r_irem rfl hin i9 (by decide) ?_
      rw [em]
      refine r_aload_n rfl rfl ?_
      refine r_getR rfl (by assumption) (by assumption) ?_
      refine r_iload rfl rfl ?_
      refine r_iald rfl (by assumption) (by omega) (by omega) ?_
      rw [g2]
      refine r_iadd rfl ?_
      refine r_istore rfl (Nat.le_of_ble_eq_true rfl) ?_
      refine r_iload rfl rfl ?_
      refine r_bipush rfl ?_
      refine r_icmp_gt rfl (by unfold inI; omega) (by unfold inI; omega) (fun h26 => ?_) (fun h26 => ?_)
      · skip
        refine r_iconst rfl ?_
        refine r_zret rfl (by first | exact Or.inl rfl | exact Or.inr rfl) ?_
        rw [beyT_s (by omega), bey1_t.mpr (by omega)] at hb; exact hQ0 hb.symm _ hz
      · skip
        refine r_iload rfl rfl ?_
        refine r_bipush rfl ?_
        refine r_icmp_le rfl (by unfold inI; omega) (by unfold inI; omega) (fun h29 => ?_) (fun h29 => ?_)
        · skip
          have hbf : bey1 p (I k) (J k) = false := bey1_f.mpr (by omega)
          have hpl : 0 ≤ (p / 9 + I k) * 9 + (p % 9 + J k) ∧ (p / 9 + I k) * 9 + (p % 9 + J k) < 81 := by omega
          have hbb := DH_b hG' hB' (by omega) hpl.1 hpl.2
          refine r_aload_n rfl rfl ?_
          refine r_iload rfl rfl ?_
          refine r_iload rfl rfl ?_
          refine r_iload_n rfl rfl ?_
          refine r_aload_n rfl rfl ?_
          refine r_getR rfl (by assumption) (by assumption) ?_
          refine r_iload rfl rfl ?_
          refine r_iald rfl (by assumption) (by omega) (by omega) ?_
          rw [g3]
          refine r_iadd rfl ?_
          refine r_cV4 rfl hD.1 (Nat.le_of_ble_eq_true rfl) rfl rfl (w_putLeast hD (by omega) (by omega) (by unfold inI; omega) (by unfold inI; omega) ?_)
          refine r_iinc rfl rfl ?_
          refine r_goto rfl ?_
          exact ih (by omega) (by omega) _ _ _ _ (fun c hc => by rw [← hz c hc]; exact zput_row hc) (DH_put hG' hB' h1 hpl.1 hpl.2 (by omega)) (DR_gl hB' (by omega)) (by rw [← addT_s (by omega) hbf]; exact hs) (by rw [beyT_s (by omega), hbf] at hb; exact hb) (fun w h => by cases h)
        · skip
          refine r_iconst rfl ?_
          refine r_zret rfl (by first | exact Or.inl rfl | exact Or.inr rfl) ?_
          rw [beyT_s (by omega), bey1_t.mpr (by omega)] at hb; exact hQ0 hb.symm _ hz
  refine wp_in (C := c_Draft_addTerm) (ls := [some (pR q), some (pI p), some (pI u), some (pR h), none, none, none]) rfl rfl rfl rfl rfl ?_
  refine r_iconst rfl ?_
  refine r_istore rfl (Nat.le_of_ble_eq_true rfl) ?_
  exact key 0 hn0 (Int.le_refl _) _ G none none (fun _ _ => rfl) hG hB (by rw [Int.sub_zero]) (by rw [Int.sub_zero]) (fun w h => by cases h)
def addO (G1 : Int → Option Int) (n : Int) (I J V : Int → Int) : Nat → Int → (Int → Option Int) → (Int → Option Int)
  | 0, _, G => G
  | m + 1, p, G => addO G1 n I J V m (p + 1) (match G1 p with | none => G | some u => addT p u I J V n.toNat 0 G)
def beyO (G1 : Int → Option Int) (n : Int) (I J : Int → Int) : Nat → Int → Bool
  | 0, _ => false
  | m + 1, p => (match G1 p with | none => false | some _ => beyT p I J n.toNat 0) || beyO G1 n I J m (p + 1)
theorem addO_s {G1 : Int → Option Int} {n : Int} {I J V : Int → Int} {N p : Int} {G : Int → Option Int} (h : p < N) : addO G1 n I J V (N - p).toNat p G = addO G1 n I J V (N - (p + 1)).toNat (p + 1) (match G1 p with | none => G | some u => addT p u I J V n.toNat 0 G) := by
  rw [show (N - p).toNat = (N - (p + 1)).toNat + 1 by omega]; rfl
theorem addO_e {G1 : Int → Option Int} {n : Int} {I J V : Int → Int} {N p : Int} {G : Int → Option Int} (h : N ≤ p) : addO G1 n I J V (N - p).toNat p G = G := by rw [show (N - p).toNat = 0 by omega]; rfl
theorem beyO_s {G1 : Int → Option Int} {n : Int} {I J : Int → Int} {N p : Int} (h : p < N) : beyO G1 n I J (N - p).toNat p = ((match G1 p with | none => false | some _ => beyT p I J n.toNat 0) || beyO G1 n I J (N - (p + 1)).toNat (p + 1)) := by
  rw [show (N - p).toNat = (N - (p + 1)).toNat + 1 by omega]; rfl
theorem beyO_e {G1 : Int → Option Int} {n : Int} {I J : Int → Int} {N p : Int} (h : N ≤ p) : beyO G1 n I J (N - p).toNat p = false := by rw [show (N - p).toNat = 0 by omega]; rfl
def sumG (G1 : Int → Option Int) (n : Int) (I J V : Int → Int) : Int → Option Int := addO G1 n I J V 81 0 (fun _ => none)
def sumB (G1 : Int → Option Int) (n : Int) (I J : Int → Int) : Bool := beyO G1 n I J 81 0
theorem DH_frame {z z' : ZM} {q q1 : Nat} {G : Int → Option Int} (hz : ∀ c, c ≠ q + 1 → z' c = z c) (hq : q1 ≠ q) (h : DH z q1 G) : DH z' q1 G := fun p h0 h1 => by rw [hz (q1 + 1) (by omega)]; exact h p h0 h1
theorem DR_mono {G : Int → Option Int} {B B' : Int} (h : DR G B) (hb : B ≤ B') : DR G B' := fun p v hv => by have := h p v hv; omega
theorem DR_addO {G1 : Int → Option Int} {n : Int} {I J V : Int → Int} {B : Int} (hR : FR n I J V) (hB1 : DR G1 (B - 200)) : ∀ (m : Nat) (p : Int) (G : Int → Option Int), DR G B → DR (addO G1 n I J V m p G) B
  | 0, _, _, h => h
  | m + 1, p, G, h => by
    unfold addO
    refine DR_addO hR hB1 m (p + 1) _ ?_
    cases hu : G1 p with
    | none => exact h
    | some u =>
      refine DR_addT _ _ _ h (fun t q1 q2 => ?_)
      have h1 := hB1 p u hu
      have h2 := hR.2.2 t q1 (by have := hR.1; omega)
      omega
set_option maxHeartbeats 2000000 in
theorem w_addUp {X : PX} {d : Nat} {S : SS} {zI zL : ZM} {Q : PQ} {h : Nat} {n : Int} {I J V : Int → Int} (hF : isForm S h) (hT : FH zI h n I J V) (hR : FR n I J V) {q q1 : Nat} {G1 : Int → Option Int} {B : Int} (hD : isDraft S q) (hD1 : isDraft S q1) (hqq : q1 ≠ q) (hqh : q + 1 < h) (hG1 : DH zI q1 G1) (hB1 : DR G1 (B - 200)) (hB2 : 200 ≤ B) (h1 : B < 1000000)
    (hQ0 : sumB G1 n I J = true → ∀ z, (∀ c, c ≠ q + 1 → z c = zI c) → Q (some (pI 0)) S z zL) (hQ1 : sumB G1 n I J = false → ∀ z, dP zI z q (sumG G1 n I J V) → Q (some (pI 1)) S z zL) : wpM X (d + 4) fDraft_addUp [pR q, pR q1, pR h] S zI zL Q := by
  have hF0 := hF
  have hT0 := hT
  have hR0 := hR
  have hob1 := hD1.1
  have hrq1 := hD1.2.1
  have hfq1 := hD1.2.2
  have i01 : inI 1 := by unfold inI; omega
  have key : ∀ p : Int, p ≤ 81 → 0 ≤ p → ∀ (z : ZM) (G' : Int → Option Int), (∀ c, c ≠ q + 1 → z c = zI c) → DH z q G' → DR G' B → addO G1 n I J V (81 - p).toNat p G' = sumG G1 n I J V → beyO G1 n I J (81 - p).toNat p = sumB G1 n I J → Run X (d + 3) c_Draft_addUp 4 [some (pR q), some (pR q1), some (pR h), some (pI p)] [] S z zL 0 0 Q := by
    refine loop_up _ 81 (fun p hk ih h0 z G' hz hG' hB' hs hb => ?_)
    have hG1' := DH_frame hz hqq hG1
    refine r_iload_n rfl rfl ?_
    refine r_bipush rfl ?_
    refine r_icmp_ge rfl (by unfold inI; omega) (by unfold inI; omega) (fun h6 => ?_) (fun h6 => ?_)
    · skip
      refine r_iconst rfl ?_
      refine r_zret rfl (by first | exact Or.inl rfl | exact Or.inr rfl) ?_
      rw [addO_e (by omega)] at hs; rw [beyO_e (by omega)] at hb; exact hQ1 hb.symm _ ⟨hz, by rw [← hs]; exact hG'⟩
    · skip
      refine r_aload_n rfl rfl ?_
      refine r_iload_n rfl rfl ?_
      refine r_cV2 rfl hD1.1 (Nat.le_of_ble_eq_true rfl) rfl rfl (w_has hD1 hG1' hB1 (by omega) h0 (by omega) ?_)
      cases hu : G1 p with
      | none =>
        refine r_if_eq rfl in0 (fun _ => ?_) (fun h => absurd rfl h)
        refine r_iinc rfl rfl ?_
        refine r_goto rfl ?_
        exact ih (by omega) (by omega) z G' hz hG' hB' (by rw [addO_s (by omega), hu] at hs; exact hs) (by rw [beyO_s (by omega), hu] at hb; exact hb)
      | some u =>
        have hu1 := hB1 p u hu
        have eu : z (q1 + 1) p = u := by rw [hG1' p h0 (by omega), hu]; rfl
        refine r_if_eq rfl i01 (fun h => absurd (show (1 : Int) = 0 from h) (by decide)) (fun _ => ?_)
        refine r_aload_n rfl rfl ?_
        refine r_iload_n rfl rfl ?_
        refine r_aload_n rfl rfl ?_
        refine r_getR rfl (by assumption) (by assumption) ?_
        refine r_iload_n rfl rfl ?_
        refine r_iald rfl (by assumption) (by omega) (by omega) ?_
        rw [eu]
        refine r_aload_n rfl rfl ?_
        refine r_cV4 rfl hD.1 (Nat.le_of_ble_eq_true rfl) rfl rfl (w_addTerm hF0 (FH_frame hz hqh hT0) hR0 hD hqh hG' hB' h1 ⟨h0, by omega⟩ (by omega) (fun hb1 z2 hz2 => ?_) (fun hb1 z2 hz2 => ?_))
        · refine r_if_ne rfl in0 (fun h => absurd rfl h) (fun _ => ?_)
          refine r_iconst rfl ?_
          refine r_zret rfl (Or.inl rfl) ?_
          rw [beyO_s (by omega), hu] at hb
          exact hQ0 (by rw [← hb]; dsimp only; rw [hb1]; rfl) _ (fun c hc => (hz2 c hc).trans (hz c hc))
        · refine r_if_ne rfl i01 (fun _ => ?_) (fun h => absurd h (by decide))
          refine r_iinc rfl rfl ?_
          refine r_goto rfl ?_
          refine ih (by omega) (by omega) z2 _ (fun c hc => (hz2.1 c hc).trans (hz c hc)) hz2.2 (DR_addT _ _ _ hB' (fun t q1 q2 => ?_)) (by rw [addO_s (by omega), hu] at hs; exact hs) (by rw [beyO_s (by omega), hu] at hb; dsimp only at hb; rw [hb1] at hb; exact hb)
          have h2 := hR0.2.2 t q1 (by have := hR0.1; omega)
          omega
  refine wp_in (C := c_Draft_addUp) (ls := [some (pR q), some (pR q1), some (pR h), none]) rfl rfl rfl rfl rfl ?_
  refine r_aload_n rfl rfl ?_
  refine r_cV1 rfl hD.1 (Nat.le_of_ble_eq_true rfl) rfl rfl (w_clear hD ?_)
  refine r_iconst rfl ?_
  refine r_istore_n rfl (Nat.le_of_ble_eq_true rfl) ?_
  exact key 0 (by omega) (Int.le_refl _) _ _ (fun c hc => zfill_o hc) (DH_clear _ _) (fun p v h => by cases h) rfl rfl
