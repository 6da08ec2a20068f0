/-! BOTH SIDES: sum, power, move -/
abbrev sumQ (a : FA) (f g : Int) : Prop := sumB (loadG (gN a f) (gI a f) (gJ a f) (gV a f)) (gN a g) (gI a g) (gJ a g) = false ∧ a.1 < 10 ∧ fitG (sumOf a f g) = true
abbrev powQ (a : FA) (f k : Int) : Prop := pwB (gN a f) (gI a f) (gJ a f) (gV a f) (k - 1).toNat (loadG (gN a f) (gI a f) (gJ a f) (gV a f)) = false ∧ a.1 < 10 ∧ fitG (powOf a f k) = true
abbrev movQ (a : FA) (f u v : Int) : Prop := a.1 < 10 ∧ fitG (movOf a f u v) = true
def sMk (bad ok : Prop) [Decidable bad] [Decidable ok] (a : FA) : Int := if bad then -2 else if ok then a.1 else -4
def nMk (bad ok : Prop) [Decidable bad] [Decidable ok] (a : FA) (k : Int) (T : FV) : FA := if bad then a else if ok then addFA a k T else a
theorem mk_b {bad ok : Prop} [Decidable bad] [Decidable ok] {a : FA} {k : Int} {T : FV} (h : bad) : sMk bad ok a = -2 ∧ nMk bad ok a k T = a := by unfold sMk nMk; rw [if_pos h, if_pos h]; exact ⟨rfl, rfl⟩
theorem mk_f {bad ok : Prop} [Decidable bad] [Decidable ok] {a : FA} {k : Int} {T : FV} (h : ¬ bad) (h2 : ¬ ok) : sMk bad ok a = -4 ∧ nMk bad ok a k T = a := by unfold sMk nMk; rw [if_neg h, if_neg h, if_neg h2, if_neg h2]; exact ⟨rfl, rfl⟩
theorem mk_o {bad ok : Prop} [Decidable bad] [Decidable ok] {a : FA} {k : Int} {T : FV} (h : ¬ bad) (h2 : ok) : sMk bad ok a = a.1 ∧ nMk bad ok a k T = addFA a k T := by unfold sMk nMk; rw [if_neg h, if_neg h, if_pos h2, if_pos h2]; exact ⟨rfl, rfl⟩
abbrev sumX (a : FA) (f g : Int) : Prop := ¬ ((0 ≤ f ∧ f < a.1) ∧ (0 ≤ g ∧ g < a.1))
abbrev powX (a : FA) (f k : Int) : Prop := ¬ ((0 ≤ f ∧ f < a.1) ∧ (1 ≤ k ∧ k ≤ 4))
abbrev movX (a : FA) (f u v : Int) : Prop := ¬ ((0 ≤ f ∧ f < a.1) ∧ (-10 ≤ u ∧ u ≤ 10) ∧ (-10 ≤ v ∧ v ≤ 10))
def sSum (a : FA) (f g : Int) : Int := sMk (sumX a f g) (sumQ a f g) a
def nSum (a : FA) (f g : Int) : FA := nMk (sumX a f g) (sumQ a f g) a 1 (pourV (sumOf a f g))
def sPow (a : FA) (f k : Int) : Int := sMk (powX a f k) (powQ a f k) a
def nPow (a : FA) (f k : Int) : FA := nMk (powX a f k) (powQ a f k) a 2 (pourV (powOf a f k))
def sMov (a : FA) (f u v : Int) : Int := sMk (movX a f u v) (movQ a f u v) a
def nMov (a : FA) (f u v : Int) : FA := nMk (movX a f u v) (movQ a f u v) a 1 (pourV (movOf a f u v))
theorem y_sum2 {X : PX} {d : Nat} {S : SS} {zI zL : ZM} {Q : PQ} (hS : Sk S) {a : FA} (hA : MF zI a) (hk : FOK a) {f g : Int} (hf : inI f) (hg : inI g) (hQ : ∀ z, frX z zI → MF z (nSum a f g) → Q (some (pI (sSum a f g))) S z zL) : wpM X (d + 3) fM_sum [pR 184, pI f, pI g] S zI zL Q := by
  unfold sSum nSum at hQ
  refine y_sum hS hA hk hf hg (fun q => ?_) (fun q1 q2 q3 z f1 f2 => ?_) (fun q1 q2 q3 z f1 f2 f3 => ?_)
  · have e := mk_b (bad := sumX a f g) (ok := sumQ a f g) (a := a) (k := 1) (T := pourV (sumOf a f g)) q
    rw [e.1, e.2] at hQ; exact hQ zI (frX_r _) hA
  · have e := mk_f (bad := sumX a f g) (ok := sumQ a f g) (a := a) (k := 1) (T := pourV (sumOf a f g)) (fun k => k ⟨q1, q2⟩) q3
    rw [e.1, e.2] at hQ; exact hQ z f1 f2
  · have e := mk_o (bad := sumX a f g) (ok := sumQ a f g) (a := a) (k := 1) (T := pourV (sumOf a f g)) (fun k => k ⟨q1, q2⟩) q3
    rw [e.1, e.2] at hQ; exact hQ z f1 f2
theorem y_power2 {X : PX} {d : Nat} {S : SS} {zI zL : ZM} {Q : PQ} (hS : Sk S) {a : FA} (hA : MF zI a) (hk : FOK a) {f k : Int} (hf : inI f) (hk2 : inI k) (hQ : ∀ z, frX z zI → MF z (nPow a f k) → Q (some (pI (sPow a f k))) S z zL) : wpM X (d + 3) fM_power [pR 184, pI f, pI k] S zI zL Q := by
  unfold sPow nPow at hQ
  refine y_power hS hA hk hf hk2 (fun q => ?_) (fun q1 q2 q3 z f1 f2 => ?_) (fun q1 q2 q3 z f1 f2 f3 => ?_)
  · have e := mk_b (bad := powX a f k) (ok := powQ a f k) (a := a) (k := 2) (T := pourV (powOf a f k)) q
    rw [e.1, e.2] at hQ; exact hQ zI (frX_r _) hA
  · have e := mk_f (bad := powX a f k) (ok := powQ a f k) (a := a) (k := 2) (T := pourV (powOf a f k)) (fun k => k ⟨q1, q2⟩) q3
    rw [e.1, e.2] at hQ; exact hQ z f1 f2
  · have e := mk_o (bad := powX a f k) (ok := powQ a f k) (a := a) (k := 2) (T := pourV (powOf a f k)) (fun k => k ⟨q1, q2⟩) q3
    rw [e.1, e.2] at hQ; exact hQ z f1 f2
theorem y_move2 {X : PX} {d : Nat} {S : SS} {zI zL : ZM} {Q : PQ} (hS : Sk S) {a : FA} (hA : MF zI a) (hk : FOK a) {f u v : Int} (hf : inI f) (hu : inI u) (hv : inI v) (hQ : ∀ z, frX z zI → MF z (nMov a f u v) → Q (some (pI (sMov a f u v))) S z zL) : wpM X (d + 3) fM_move [pR 184, pI f, pI u, pI v] S zI zL Q := by
  unfold sMov nMov at hQ
  refine y_move hS hA hk hf hu hv (fun q => ?_) (fun q1 q2 q3 q4 z f1 f2 => ?_) (fun q1 q2 q3 q4 z f1 f2 f3 => ?_)
  · have e := mk_b (bad := movX a f u v) (ok := movQ a f u v) (a := a) (k := 1) (T := pourV (movOf a f u v)) q
    rw [e.1, e.2] at hQ; exact hQ zI (frX_r _) hA
  · have e := mk_f (bad := movX a f u v) (ok := movQ a f u v) (a := a) (k := 1) (T := pourV (movOf a f u v)) (fun k => k ⟨q1, q2, q3⟩) q4
    rw [e.1, e.2] at hQ; exact hQ z f1 f2
  · have e := mk_o (bad := movX a f u v) (ok := movQ a f u v) (a := a) (k := 1) (T := pourV (movOf a f u v)) (fun k => k ⟨q1, q2, q3⟩) q4
    rw [e.1, e.2] at hQ; exact hQ z f1 f2
def frD2 (z' z : ZM) : Prop := ∀ c, c ≠ 10 → c ≠ 12 → z' c = z c
theorem frD2_r (z : ZM) : frD2 z z := fun _ _ _ => rfl
theorem frD2_t {z z2 z3 : ZM} (h1 : frD2 z2 z) (h2 : frD2 z3 z2) : frD2 z3 z := fun c a b => (h2 c a b).trans (h1 c a b)
theorem frD2_V {z z2 : ZM} (h : frD2 z2 z) : frVa z2 z := ⟨fun c hc => h c (by omega) (by omega), fun k _ => by rw [h 0 (by decide) (by decide)]⟩
theorem CF_D2 {S : SS} {z z2 zL : ZM} {a : FA} (hC : CF S z zL a) (hk : FOK a) (h : frD2 z2 z) : CF S z2 zL a := CF_fr hC hk (by rw [h 0 (by decide) (by decide)]) (by rw [h 14 (by decide) (by decide)]) (fun c c0 c1 => h c (by omega) (by omega)) (fun _ _ _ _ _ _ => rfl)
theorem FH_D2 {z z2 : ZM} {h : Nat} {n : Int} {I J V : Int → Int} (hT : FH z h n I J V) (h26 : 26 ≤ h) (hz : frD2 z2 z) : FH z2 h n I J V := FH_fr hT (fun c c0 c1 => hz c (by omega) (by omega))
theorem frD2_q {z z2 : ZM} {q : Nat} (hq : q = 9 ∨ q = 11) (h : ∀ c, c ≠ q + 1 → z2 c = z c) : frD2 z2 z := fun c a b => h c (by omega)
theorem DR_sum {n : Int} {I J V : Int → Int} {G1 : Int → Option Int} {B : Int} (hR : FR n I J V) (hB : DR G1 (B - 200)) : DR (sumG G1 n I J V) B := DR_addO hR hB 81 0 _ (fun _ _ h => by cases h)
theorem c_fits {X : PX} {d : Nat} {S : SS} {zI zL : ZM} {Q : PQ} {q : Nat} {G : Int → Option Int} {B : Int} (hD : isDraft S q) (hG : DH zI q G) (hB : DR G B) (h1 : B < 1000000) (hQ1 : fitG G = true → Q (some (pI 1)) S zI zL) (hQ0 : fitG G = false → Q (some (pI 0)) S zI zL) : wpM X (d + 2) fDraft_fits [pR q] S zI zL Q := by
  refine w_fits hD hG hB h1 ?_
  cases h : fitG G with
  | true => exact hQ1 h
  | false => exact hQ0 h
set_option maxHeartbeats 1000000 in
theorem c_sum {X : PX} {d : Nat} {S : SS} {zI zL : ZM} {Q : PQ} (hS : Sk S) {a : FA} (hA : CF S zI zL a) (hk : FOK a) {f g : Int} (hf : inI f) (hg : inI g) (hQ : ∀ z, frVa z zI → CF S z zL (nSum a f g) → FOK (nSum a f g) → Q (some (pI (sSum a f g))) S z zL) : wpM X (d + 5) fC_sum [pR 0, pI f, pI g] S zI zL Q := by
  have hA0 := hA
  obtain ⟨⟨cF0, cF14, cF75⟩, cFf⟩ := hA
  have k10 := hk.1.2
  have k00' := hk.1.1
  unfold sSum nSum at hQ
  obtain ⟨hD9, hD11⟩ := c_draft hS
  refine wp_in (C := c_C_sum) (ls := [some (pR 0), some (pI f), some (pI g)]) rfl rfl rfl rfl rfl ?_
  refine r_aload_n rfl rfl ?_
  refine r_iload_n rfl rfl ?_
  refine r_cV2 rfl (so0 hS) (Nat.le_of_ble_eq_true rfl) rfl rfl (c_exists (d := d + 2) hS hA0 hk hf (fun p q => ?_) (fun p => ?_))
  · skip
    refine r_if_eq1 rfl ?_
    refine r_aload_n rfl rfl ?_
    refine r_iload_n rfl rfl ?_
    refine r_cV2 rfl (so0 hS) (Nat.le_of_ble_eq_true rfl) rfl rfl (c_exists (d := d + 2) hS hA0 hk hg (fun p2 q2 => ?_) (fun p => ?_))
    · skip
      refine r_if_ne1 rfl ?_
      have ef : 0 ≤ f ∧ f < a.1 := ⟨p, q⟩
      have f10f : f < 10 := by omega
      obtain ⟨rFf, rGf⟩ := c_F hS p f10f
      have hformf := sk_form hS (k := (f).toNat) (by omega)
      have hfof := hformf.1
      obtain ⟨hFHf, hkdf, hdrf, hcvf⟩ := cFf f p q
      obtain ⟨hRf, hSfs, hkbf, hktf⟩ := hk.2 f p q
      obtain ⟨hb26f, hb161f⟩ := fO_b p f10f
      have eg : 0 ≤ g ∧ g < a.1 := ⟨p2, q2⟩
      have f10g : g < 10 := by omega
      obtain ⟨rFg, rGg⟩ := c_F hS p2 f10g
      have hformg := sk_form hS (k := (g).toNat) (by omega)
      have hfog := hformg.1
      obtain ⟨hFHg, hkdg, hdrg, hcvg⟩ := cFf g p2 q2
      obtain ⟨hRg, hSgs, hkbg, hktg⟩ := hk.2 g p2 q2
      obtain ⟨hb26g, hb161g⟩ := fO_b p2 f10g
      
      refine r_aload_n rfl rfl ?_
      refine r_getR rfl (so0 hS) (sr0_5 hS) ?_
      refine r_aload_n rfl rfl ?_
      refine r_getR rfl (so0 hS) (sr0_0 hS) ?_
      refine r_iload_n rfl rfl ?_
      refine r_aald rfl (sw1 hS) (by decide) (by omega) (by omega) rFf ?_
      refine r_cV2 rfl (so9 hS) (Nat.le_of_ble_eq_true rfl) rfl rfl (w_load (d := d + 1) hformf hFHf hRf hD9 (by omega) (fun z hz => ?_))
      refine r_aload_n rfl rfl ?_
      refine r_getI rfl (so0 hS) ?_
      have hfz := frD2_q (Or.inl rfl) hz.1
      rw [hz.1 0 (by decide), cF0]
      refine r_bipush rfl ?_
      refine r_icmp_ge rfl (by unfold inI; omega) (by unfold inI; omega) (fun h20 => ?_) (fun h20 => ?_)
      · skip
        refine r_bipush rfl ?_
        refine r_iret rfl ?_
        have e := mk_f (bad := sumX a f g) (ok := sumQ a f g) (a := a) (k := 1) (T := pourV (sumOf a f g)) (fun k => k ⟨ef, eg⟩) (fun k => absurd k.2.1 (by omega))
        rw [e.1, e.2] at hQ
        exact hQ z (frD2_V hfz) (CF_D2 hA0 hk hfz) hk
      · skip
        refine r_aload_n rfl rfl ?_
        refine r_getR rfl (so0 hS) (sr0_6 hS) ?_
        refine r_aload_n rfl rfl ?_
        refine r_getR rfl (so0 hS) (sr0_5 hS) ?_
        refine r_aload_n rfl rfl ?_
        refine r_getR rfl (so0 hS) (sr0_0 hS) ?_
        refine r_iload_n rfl rfl ?_
        refine r_aald rfl (sw1 hS) (by decide) (by omega) (by omega) rFg ?_
        refine r_cV3 rfl (so11 hS) (Nat.le_of_ble_eq_true rfl) rfl rfl (w_addUp (B := 400) hformg (FH_D2 hFHg hb26g hfz) hRg hD11 hD9 (by decide) (by omega) hz.2 (DR_l hRf) (by decide) (by decide) (fun hb z2 hz2 => ?_) (fun hb z2 hz2 => ?_))
        · skip
          refine r_if_eq0 rfl ?_
          refine r_bipush rfl ?_
          refine r_iret rfl ?_
          have e := mk_f (bad := sumX a f g) (ok := sumQ a f g) (a := a) (k := 1) (T := pourV (sumOf a f g)) (fun k => k ⟨ef, eg⟩) (fun k => absurd (hb.symm.trans k.1) (by decide))
          rw [e.1, e.2] at hQ
          exact hQ z2 (frD2_V (frD2_t hfz (frD2_q (Or.inr rfl) hz2))) (CF_D2 hA0 hk (frD2_t hfz (frD2_q (Or.inr rfl) hz2))) hk
        · skip
          refine r_if_eq1 rfl ?_
          have hfz2 := frD2_t hfz (frD2_q (Or.inr rfl) hz2.1)
          have hdr4 : DR (sumOf a f g) 400 := DR_sum hRg (DR_l hRf)
          refine r_aload_n rfl rfl ?_
          refine r_getR rfl (so0 hS) (sr0_6 hS) ?_
          refine r_cV1 rfl (so11 hS) (Nat.le_of_ble_eq_true rfl) rfl rfl (c_fits hD11 hz2.2 hdr4 (by decide) (fun hft => ?_) (fun hft => ?_))
          · skip
            refine r_if_ne1 rfl ?_
            refine r_aload_n rfl rfl ?_
            refine r_aload_n rfl rfl ?_
            refine r_getR rfl (so0 hS) (sr0_6 hS) ?_
            refine r_iconst rfl ?_
            refine r_cV3 rfl (so0 hS) (Nat.le_of_ble_eq_true rfl) rfl rfl (c_openFrom hS (CF_D2 hA0 hk hfz2) hk (show a.1 < 10 by omega) hD11 (Or.inr rfl) hz2.2 hft (DR_mono hdr4 (by decide)) (fun z9 f9 hC9 hFR9 hFS9 => ?_))
            refine r_iret rfl ?_
            have e := mk_o (bad := sumX a f g) (ok := sumQ a f g) (a := a) (k := 1) (T := pourV (sumOf a f g)) (fun k => k ⟨ef, eg⟩) (⟨hb, by omega, hft⟩)
            rw [e.1, e.2] at hQ
            exact hQ z9 (frVa_t (frD2_V hfz2) f9) hC9 (FOK_add hk (by omega) hFR9 hFS9 (by omega) (fun k => absurd k (by decide)))
          · skip
            refine r_if_ne0 rfl ?_
            refine r_bipush rfl ?_
            refine r_iret rfl ?_
            have e := mk_f (bad := sumX a f g) (ok := sumQ a f g) (a := a) (k := 1) (T := pourV (sumOf a f g)) (fun k => k ⟨ef, eg⟩) (fun k => absurd (hft.symm.trans k.2.2) (by decide))
            rw [e.1, e.2] at hQ
            exact hQ z2 (frD2_V hfz2) (CF_D2 hA0 hk hfz2) hk
    · skip
      refine r_if_ne0 rfl ?_
      refine r_bipush rfl ?_
      refine r_iret rfl ?_
      have e := mk_b (bad := sumX a f g) (ok := sumQ a f g) (a := a) (k := 1) (T := pourV (sumOf a f g)) (fun k => p k.2)
      rw [e.1, e.2] at hQ
      exact hQ zI (frVa_r _) hA0 hk
  · skip
    refine r_if_eq0 rfl ?_
    refine r_bipush rfl ?_
    refine r_iret rfl ?_
    have e := mk_b (bad := sumX a f g) (ok := sumQ a f g) (a := a) (k := 1) (T := pourV (sumOf a f g)) (fun k => p k.1)
    rw [e.1, e.2] at hQ
    exact hQ zI (frVa_r _) hA0 hk
set_option maxHeartbeats 1000000 in
theorem c_move {X : PX} {d : Nat} {S : SS} {zI zL : ZM} {Q : PQ} (hS : Sk S) {a : FA} (hA : CF S zI zL a) (hk : FOK a) {f u v : Int} (hf : inI f) (hu : inI u) (hv : inI v) (hQ : ∀ z, frVa z zI → CF S z zL (nMov a f u v) → FOK (nMov a f u v) → Q (some (pI (sMov a f u v))) S z zL) : wpM X (d + 5) fC_move [pR 0, pI f, pI u, pI v] S zI zL Q := by
  have hA0 := hA
  obtain ⟨⟨cF0, cF14, cF75⟩, cFf⟩ := hA
  have k10 := hk.1.2
  have k00' := hk.1.1
  unfold sMov nMov at hQ
  obtain ⟨hD9, hD11⟩ := c_draft hS
  refine wp_in (C := c_C_move) (ls := [some (pR 0), some (pI f), some (pI u), some (pI v)]) rfl rfl rfl rfl rfl ?_
  refine r_aload_n rfl rfl ?_
  refine r_iload_n rfl rfl ?_
  refine r_cV2 rfl (so0 hS) (Nat.le_of_ble_eq_true rfl) rfl rfl (c_exists (d := d + 2) hS hA0 hk hf (fun p q => ?_) (fun p => ?_))
  · skip
    refine r_if_eq1 rfl ?_
    refine r_iload_n rfl rfl ?_
    refine r_bipush rfl ?_
    refine r_bipush rfl ?_
    refine r_cS3 rfl (by decide) (Nat.le_of_ble_eq_true rfl) rfl rfl (c_within (d := d + 3) hu (by unfold inI; omega) (by unfold inI; omega) (fun u0 u1 => ?_) (fun p0 => ?_))
    · skip
      refine r_if_eq1 rfl ?_
      refine r_iload_n rfl rfl ?_
      refine r_bipush rfl ?_
      refine r_bipush rfl ?_
      refine r_cS3 rfl (by decide) (Nat.le_of_ble_eq_true rfl) rfl rfl (c_within (d := d + 3) hv (by unfold inI; omega) (by unfold inI; omega) (fun v0 v1 => ?_) (fun p0 => ?_))
      · skip
        refine r_if_ne1 rfl ?_
        have ef : 0 ≤ f ∧ f < a.1 := ⟨p, q⟩
        have f10f : f < 10 := by omega
        obtain ⟨rFf, rGf⟩ := c_F hS p f10f
        have hformf := sk_form hS (k := (f).toNat) (by omega)
        have hfof := hformf.1
        obtain ⟨hFHf, hkdf, hdrf, hcvf⟩ := cFf f p q
        obtain ⟨hRf, hSfs, hkbf, hktf⟩ := hk.2 f p q
        obtain ⟨hb26f, hb161f⟩ := fO_b p f10f
        
        refine r_aload_n rfl rfl ?_
        refine r_getR rfl (so0 hS) (sr0_5 hS) ?_
        refine r_aload_n rfl rfl ?_
        refine r_getR rfl (so0 hS) (sr0_0 hS) ?_
        refine r_iload_n rfl rfl ?_
        refine r_aald rfl (sw1 hS) (by decide) (by omega) (by omega) rFf ?_
        refine r_cV2 rfl (so9 hS) (Nat.le_of_ble_eq_true rfl) rfl rfl (w_load (d := d + 1) hformf hFHf hRf hD9 (by omega) (fun z hz => ?_))
        have hfz := frD2_q (Or.inl rfl) hz.1
        refine r_aload_n rfl rfl ?_
        refine r_getR rfl (so0 hS) (sr0_5 hS) ?_
        refine r_iload_n rfl rfl ?_
        refine r_iload_n rfl rfl ?_
        refine r_cV3 rfl (so9 hS) (Nat.le_of_ble_eq_true rfl) rfl rfl (w_shift (d := d + 2) hD9 hz.2 (DR_l hRf) (by decide) ⟨u0, u1⟩ ⟨v0, v1⟩ (fun z2 hz2 => ?_))
        have hfz2 := frD2_t hfz (frD2_q (Or.inl rfl) hz2.1)
        have hdr4 : DR (movOf a f u v) 400 := DR_sh2 (DR_l hRf) ⟨u0, u1⟩ ⟨v0, v1⟩ (by decide)
        refine r_aload_n rfl rfl ?_
        refine r_getI rfl (so0 hS) ?_
        rw [hz2.1 0 (by decide), hz.1 0 (by decide), cF0]
        refine r_bipush rfl ?_
        refine r_icmp_ge rfl (by unfold inI; omega) (by unfold inI; omega) (fun h31 => ?_) (fun h31 => ?_)
        · skip
          refine r_bipush rfl ?_
          refine r_iret rfl ?_
          have e := mk_f (bad := movX a f u v) (ok := movQ a f u v) (a := a) (k := 1) (T := pourV (movOf a f u v)) (fun k => k ⟨ef, ⟨u0, u1⟩, v0, v1⟩) (fun k => absurd k.1 (by omega))
          rw [e.1, e.2] at hQ
          exact hQ z2 (frD2_V hfz2) (CF_D2 hA0 hk hfz2) hk
        · skip
          refine r_aload_n rfl rfl ?_
          refine r_getR rfl (so0 hS) (sr0_5 hS) ?_
          refine r_cV1 rfl (so9 hS) (Nat.le_of_ble_eq_true rfl) rfl rfl (c_fits hD9 hz2.2 hdr4 (by decide) (fun hft => ?_) (fun hft => ?_))
          · skip
            refine r_if_eq1 rfl ?_
            refine r_aload_n rfl rfl ?_
            refine r_aload_n rfl rfl ?_
            refine r_getR rfl (so0 hS) (sr0_5 hS) ?_
            refine r_iconst rfl ?_
            refine r_cV3 rfl (so0 hS) (Nat.le_of_ble_eq_true rfl) rfl rfl (c_openFrom hS (CF_D2 hA0 hk hfz2) hk (show a.1 < 10 by omega) hD9 (Or.inl rfl) hz2.2 hft (DR_mono hdr4 (by decide)) (fun z9 f9 hC9 hFR9 hFS9 => ?_))
            refine r_goto rfl ?_
            refine r_iret rfl ?_
            have e := mk_o (bad := movX a f u v) (ok := movQ a f u v) (a := a) (k := 1) (T := pourV (movOf a f u v)) (fun k => k ⟨ef, ⟨u0, u1⟩, v0, v1⟩) (⟨by omega, hft⟩)
            rw [e.1, e.2] at hQ
            exact hQ z9 (frVa_t (frD2_V hfz2) f9) hC9 (FOK_add hk (by omega) hFR9 hFS9 (by omega) (fun k => absurd k (by decide)))
          · skip
            refine r_if_eq0 rfl ?_
            refine r_bipush rfl ?_
            refine r_iret rfl ?_
            have e := mk_f (bad := movX a f u v) (ok := movQ a f u v) (a := a) (k := 1) (T := pourV (movOf a f u v)) (fun k => k ⟨ef, ⟨u0, u1⟩, v0, v1⟩) (fun k => absurd (hft.symm.trans k.2) (by decide))
            rw [e.1, e.2] at hQ
            exact hQ z2 (frD2_V hfz2) (CF_D2 hA0 hk hfz2) hk
      · skip
        refine r_if_ne0 rfl ?_
        refine r_bipush rfl ?_
        refine r_iret rfl ?_
        have e := mk_b (bad := movX a f u v) (ok := movQ a f u v) (a := a) (k := 1) (T := pourV (movOf a f u v)) (fun k => p0 k.2.2)
        rw [e.1, e.2] at hQ
        exact hQ zI (frVa_r _) hA0 hk
    · skip
      refine r_if_eq0 rfl ?_
      refine r_bipush rfl ?_
      refine r_iret rfl ?_
      have e := mk_b (bad := movX a f u v) (ok := movQ a f u v) (a := a) (k := 1) (T := pourV (movOf a f u v)) (fun k => p0 k.2.1)
      rw [e.1, e.2] at hQ
      exact hQ zI (frVa_r _) hA0 hk
  · skip
    refine r_if_eq0 rfl ?_
    refine r_bipush rfl ?_
    refine r_iret rfl ?_
    have e := mk_b (bad := movX a f u v) (ok := movQ a f u v) (a := a) (k := 1) (T := pourV (movOf a f u v)) (fun k => p k.1)
    rw [e.1, e.2] at hQ
    exact hQ zI (frVa_r _) hA0 hk
theorem pwB_s {n : Int} {I J V : Int → Int} {G : Int → Option Int} {s k : Int} (h : s < k) : pwB n I J V (k - s).toNat G = (sumB G n I J || pwB n I J V (k - (s + 1)).toNat (sumG G n I J V)) := by rw [show (k - s).toNat = (k - (s + 1)).toNat + 1 by omega]; rfl
theorem pwG_s {n : Int} {I J V : Int → Int} {G : Int → Option Int} {s k : Int} (h : s < k) : pwG n I J V (k - s).toNat G = pwG n I J V (k - (s + 1)).toNat (sumG G n I J V) := by rw [show (k - s).toNat = (k - (s + 1)).toNat + 1 by omega]; rfl
theorem pw_e {n : Int} {I J V : Int → Int} {G : Int → Option Int} {s k : Int} (h : k ≤ s) : pwG n I J V (k - s).toNat G = G ∧ pwB n I J V (k - s).toNat G = false := by rw [show (k - s).toNat = 0 by omega]; exact ⟨rfl, rfl⟩
set_option maxHeartbeats 2000000 in
theorem c_power {X : PX} {d : Nat} {S : SS} {zI zL : ZM} {Q : PQ} (hS : Sk S) {a : FA} (hA : CF S zI zL a) (hk : FOK a) {f k : Int} (hf : inI f) (hk2 : inI k) (hQ : ∀ z, frVa z zI → CF S z zL (nPow a f k) → FOK (nPow a f k) → Q (some (pI (sPow a f k))) S z zL) : wpM X (d + 5) fC_power [pR 0, pI f, pI k] S zI zL Q := by
  have hA0 := hA
  obtain ⟨⟨cF0, cF14, cF75⟩, cFf⟩ := hA
  have k10 := hk.1.2
  have k00' := hk.1.1
  unfold sPow nPow at hQ
  obtain ⟨hD9, hD11⟩ := c_draft hS
  have lp : (0 ≤ f ∧ f < a.1) → (1 ≤ k ∧ k ≤ 4) → a.1 < 10 → ∀ s : Int, s ≤ k → 1 ≤ s → ∀ (q q1 : Nat) (G : Int → Option Int) (z : ZM) (y6 : Option PV), ((q = 9 ∧ q1 = 11) ∨ (q = 11 ∧ q1 = 9)) → frD2 z zI → DH z q G → DR G (200 * s) → pwB (gN a f) (gI a f) (gJ a f) (gV a f) (k - s).toNat G = pwB (gN a f) (gI a f) (gJ a f) (gV a f) (k - 1).toNat (loadG (gN a f) (gI a f) (gJ a f) (gV a f)) → pwG (gN a f) (gI a f) (gJ a f) (gV a f) (k - s).toNat G = pwG (gN a f) (gI a f) (gJ a f) (gV a f) (k - 1).toNat (loadG (gN a f) (gI a f) (gJ a f) (gV a f)) → Run X (d + 4) c_C_power 31 [some (pR 0), some (pI f), some (pI k), some (pR q), some (pR q1), some (pI s), y6] [] S z zL 0 0 Q := by
    intro ef' ek h10
    obtain ⟨k0, k1⟩ := ek
    obtain ⟨p, q⟩ := ef'
    have ef : 0 ≤ f ∧ f < a.1 := ⟨p, q⟩
    have f10f : f < 10 := by omega
    obtain ⟨rFf, rGf⟩ := c_F hS p f10f
    have hformf := sk_form hS (k := (f).toNat) (by omega)
    have hfof := hformf.1
    obtain ⟨hFHf, hkdf, hdrf, hcvf⟩ := cFf f p q
    obtain ⟨hRf, hSfs, hkbf, hktf⟩ := hk.2 f p q
    obtain ⟨hb26f, hb161f⟩ := fO_b p f10f
    have ef : 0 ≤ f ∧ f < a.1 := ⟨p, q⟩
    refine loop_from _ k 1 (fun s hs ih s1 q q1 G z y6 hqq hfz hDH hDR hpb hpg => ?_)
    obtain ⟨hDq, hDq1⟩ : isDraft S q ∧ isDraft S q1 := by rcases hqq with ⟨e1, e2⟩ | ⟨e1, e2⟩ <;> (subst e1; subst e2; first | exact ⟨hD9, hD11⟩ | exact ⟨hD11, hD9⟩)
    have hobq := hDq.1
    have hobq1 := hDq1.1
    have hq9 : q = 9 ∨ q = 11 := by omega
    refine r_iload rfl rfl ?_
    refine r_iload_n rfl rfl ?_
    refine r_icmp_ge rfl (by unfold inI; omega) (by unfold inI; omega) (fun h33 => ?_) (fun h33 => ?_)
    · skip
      refine r_aload_n rfl rfl ?_
      refine r_cV1 rfl hobq (Nat.le_of_ble_eq_true rfl) rfl rfl (c_fits hDq hDH hDR (by omega) (fun hft => ?_) (fun hft => ?_))
      · skip
        refine r_if_eq1 rfl ?_
        have es : s = k := by omega
        have pe := pw_e (n := gN a f) (I := gI a f) (J := gJ a f) (V := gV a f) (G := G) (show k ≤ s by omega)
        rw [pe.1] at hpg
        rw [pe.2] at hpb
        have eG : G = powOf a f k := hpg
        rw [eG] at hft hDR hDH
        refine r_aload_n rfl rfl ?_
        refine r_aload_n rfl rfl ?_
        refine r_iconst rfl ?_
        refine r_cV3 rfl (so0 hS) (Nat.le_of_ble_eq_true rfl) rfl rfl (c_openFrom hS (CF_D2 hA0 hk hfz) hk h10 hDq hq9 hDH hft (DR_mono hDR (by omega)) (fun z9 f9 hC9 hFR9 hFS9 => ?_))
        refine r_goto rfl ?_
        refine r_iret rfl ?_
        have e := mk_o (bad := powX a f k) (ok := powQ a f k) (a := a) (k := 2) (T := pourV (powOf a f k)) (fun k => k ⟨ef, k0, k1⟩) (⟨hpb.symm, h10, hft⟩)
        rw [e.1, e.2] at hQ
        exact hQ z9 (frVa_t (frD2_V hfz) f9) hC9 (FOK_add hk (by omega) hFR9 hFS9 (by omega) (fun k => absurd k (by decide)))
      · skip
        refine r_if_eq0 rfl ?_
        refine r_bipush rfl ?_
        refine r_iret rfl ?_
        have pe := pw_e (n := gN a f) (I := gI a f) (J := gJ a f) (V := gV a f) (G := G) (show k ≤ s by omega)
        rw [pe.1] at hpg
        have eG : G = powOf a f k := hpg
        rw [eG] at hft
        have e := mk_f (bad := powX a f k) (ok := powQ a f k) (a := a) (k := 2) (T := pourV (powOf a f k)) (fun k => k ⟨ef, k0, k1⟩) (fun kk => absurd (hft.symm.trans kk.2.2) (by decide))
        rw [e.1, e.2] at hQ
        exact hQ z (frD2_V hfz) (CF_D2 hA0 hk hfz) hk
    · skip
      refine r_aload rfl rfl ?_
      refine r_aload_n rfl rfl ?_
      refine r_aload_n rfl rfl ?_
      refine r_getR rfl (so0 hS) (sr0_0 hS) ?_
      refine r_iload_n rfl rfl ?_
      refine r_aald rfl (sw1 hS) (by decide) (by omega) (by omega) rFf ?_
      refine r_cV3 rfl hobq1 (Nat.le_of_ble_eq_true rfl) rfl rfl (w_addUp (B := 200 * (s + 1)) hformf (FH_D2 hFHf hb26f hfz) hRf hDq1 hDq (by omega) (by omega) hDH (DR_mono hDR (by omega)) (by omega) (by omega) (fun hb z2 hz2 => ?_) (fun hb z2 hz2 => ?_))
      · skip
        refine r_if_ne0 rfl ?_
        refine r_bipush rfl ?_
        refine r_iret rfl ?_
        have e := mk_f (bad := powX a f k) (ok := powQ a f k) (a := a) (k := 2) (T := pourV (powOf a f k)) (fun k => k ⟨ef, k0, k1⟩) (fun kk => by rw [kk.1] at hpb; rw [pwB_s (show s < k by omega), hb] at hpb; exact absurd hpb (by simp))
        rw [e.1, e.2] at hQ
        exact hQ z2 (frD2_V (frD2_t hfz (frD2_q (by omega) hz2))) (CF_D2 hA0 hk (frD2_t hfz (frD2_q (by omega) hz2))) hk
      · skip
        refine r_if_ne1 rfl ?_
        refine r_aload_n rfl rfl ?_
        refine r_astore rfl (Nat.le_of_ble_eq_true rfl) ?_
        refine r_aload rfl rfl ?_
        refine r_astore_n rfl (Nat.le_of_ble_eq_true rfl) ?_
        refine r_aload rfl rfl ?_
        refine r_astore rfl (Nat.le_of_ble_eq_true rfl) ?_
        refine r_iinc rfl rfl ?_
        refine r_goto rfl ?_
        refine ih (by omega) (by omega) q1 q _ z2 _ (by omega) (frD2_t hfz (frD2_q (by omega) hz2.1)) hz2.2 (DR_sum hRf (DR_mono hDR (by omega))) ?_ ?_
        · rw [← hpb, pwB_s (show s < k by omega), hb, Bool.false_or]
        · rw [← hpg, pwG_s (show s < k by omega)]
  refine wp_in (C := c_C_power) (ls := [some (pR 0), some (pI f), some (pI k), none, none, none, none]) rfl rfl rfl rfl rfl ?_
  refine r_aload_n rfl rfl ?_
  refine r_iload_n rfl rfl ?_
  refine r_cV2 rfl (so0 hS) (Nat.le_of_ble_eq_true rfl) rfl rfl (c_exists (d := d + 2) hS hA0 hk hf (fun p q => ?_) (fun p => ?_))
  · skip
    refine r_if_eq1 rfl ?_
    refine r_iload_n rfl rfl ?_
    refine r_iconst rfl ?_
    refine r_iconst rfl ?_
    refine r_cS3 rfl (by decide) (Nat.le_of_ble_eq_true rfl) rfl rfl (c_within (d := d + 3) hk2 (by unfold inI; omega) (by unfold inI; omega) (fun k0 k1 => ?_) (fun p0 => ?_))
    · skip
      refine r_if_ne1 rfl ?_
      have ef : 0 ≤ f ∧ f < a.1 := ⟨p, q⟩
      have f10f : f < 10 := by omega
      obtain ⟨rFf, rGf⟩ := c_F hS p f10f
      have hformf := sk_form hS (k := (f).toNat) (by omega)
      have hfof := hformf.1
      obtain ⟨hFHf, hkdf, hdrf, hcvf⟩ := cFf f p q
      obtain ⟨hRf, hSfs, hkbf, hktf⟩ := hk.2 f p q
      obtain ⟨hb26f, hb161f⟩ := fO_b p f10f
      
      refine r_aload_n rfl rfl ?_
      refine r_getI rfl (so0 hS) ?_
      rw [cF0]
      refine r_bipush rfl ?_
      refine r_icmp_lt rfl (by unfold inI; omega) (by unfold inI; omega) (fun h14 => ?_) (fun h14 => ?_)
      · skip
        refine r_aload_n rfl rfl ?_
        refine r_getR rfl (so0 hS) (sr0_5 hS) ?_
        refine r_astore_n rfl (Nat.le_of_ble_eq_true rfl) ?_
        refine r_aload_n rfl rfl ?_
        refine r_getR rfl (so0 hS) (sr0_6 hS) ?_
        refine r_astore rfl (Nat.le_of_ble_eq_true rfl) ?_
        refine r_aload_n rfl rfl ?_
        refine r_aload_n rfl rfl ?_
        refine r_getR rfl (so0 hS) (sr0_0 hS) ?_
        refine r_iload_n rfl rfl ?_
        refine r_aald rfl (sw1 hS) (by decide) (by omega) (by omega) rFf ?_
        refine r_cV2 rfl (so9 hS) (Nat.le_of_ble_eq_true rfl) rfl rfl (w_load (d := d + 1) hformf hFHf hRf hD9 (by omega) (fun z hz => ?_))
        refine r_iconst rfl ?_
        refine r_istore rfl (Nat.le_of_ble_eq_true rfl) ?_
        exact lp ef ⟨k0, k1⟩ (by omega) 1 (by omega) (Int.le_refl _) 9 11 _ z _ (Or.inl ⟨rfl, rfl⟩) (frD2_q (Or.inl rfl) hz.1) hz.2 (DR_mono (DR_l hRf) (by decide)) rfl rfl
      · skip
        refine r_bipush rfl ?_
        refine r_iret rfl ?_
        have e := mk_f (bad := powX a f k) (ok := powQ a f k) (a := a) (k := 2) (T := pourV (powOf a f k)) (fun k => k ⟨ef, k0, k1⟩) (fun k => absurd k.2.1 (by omega))
        rw [e.1, e.2] at hQ
        exact hQ zI (frD2_V (frD2_r _)) (CF_D2 hA0 hk (frD2_r _)) hk
    · skip
      refine r_if_ne0 rfl ?_
      refine r_bipush rfl ?_
      refine r_iret rfl ?_
      have e := mk_b (bad := powX a f k) (ok := powQ a f k) (a := a) (k := 2) (T := pourV (powOf a f k)) (fun k => p0 k.2)
      rw [e.1, e.2] at hQ
      exact hQ zI (frVa_r _) hA0 hk
  · skip
    refine r_if_eq0 rfl ?_
    refine r_bipush rfl ?_
    refine r_iret rfl ?_
    have e := mk_b (bad := powX a f k) (ok := powQ a f k) (a := a) (k := 2) (T := pourV (powOf a f k)) (fun k => p k.1)
    rw [e.1, e.2] at hQ
    exact hQ zI (frVa_r _) hA0 hk
