/-! THE CLASS: its forms; private methods -/
def CFo (S : SS) (z z2 : ZM) (h : Nat) (n : Int) (I J V : Int → Int) (kd : Int) : Prop := FH z h n I J V ∧ z h 3 = kd ∧ (z h 5 = 0 ∨ z h 5 = 1) ∧ (z h 5 = 1 → CvT S z z2 h n I J V (drwS n I J V))
/-- the forms as the class has them -/
def CF (S : SS) (z z2 : ZM) (a : FA) : Prop := (z 0 10 = a.1 ∧ z 14 4 = 128 ∧ ∀ f : Int, 0 ≤ f → f < 10 → z (fO f.toNat + 6) 4 = 75) ∧ ∀ f, 0 ≤ f → f < a.1 → CFo S z z2 (fO f.toNat) (gN a f) (gI a f) (gJ a f) (gV a f) (gK a f)
theorem fO_b {f : Int} (h0 : 0 ≤ f) (h1 : f < 10) : 26 ≤ fO f.toNat ∧ fO f.toNat ≤ 161 := by unfold fO; omega
theorem fO_ne {f g : Int} (h0 : 0 ≤ f) (g0 : 0 ≤ g) (h : f ≠ g) : fO f.toNat + 14 < fO g.toNat ∨ fO g.toNat + 14 < fO f.toNat := by unfold fO; omega
theorem c_F {S : SS} (hS : Sk S) {f : Int} (h0 : 0 ≤ f) (h1 : f < 10) : S.2 1 f = some (fO f.toNat) ∧ S.2 2 f = some (fO f.toNat + 4) := by
  have h := sk_forms hS (k := f.toNat) (by omega)
  rw [show ((f.toNat : Nat) : Int) = f by omega] at h
  exact h
theorem CFo_fr {S : SS} {z z2 z' z2' : ZM} {h : Nat} {n : Int} {I J V : Int → Int} {kd : Int} (hC : CFo S z z2 h n I J V kd) (hI : ∀ c, h ≤ c → c ≤ h + 14 → z' c = z c) (hL : ∀ c, h + 7 ≤ c → c ≤ h + 10 → z2' c = z2 c) : CFo S z' z2' h n I J V kd := by
  obtain ⟨h1, h2, h3, h4⟩ := hC
  have e := hI h (by omega) (by omega)
  refine ⟨FH_fr h1 (fun c k0 k1 => hI c (by omega) (by omega)), by rw [e]; exact h2, by rw [e]; exact h3, fun q => ?_⟩
  rw [e] at q
  exact CvH_fr (h4 q) hI hL
theorem CF_fr {S : SS} {z z2 z' z2' : ZM} {a : FA} (hC : CF S z z2 a) (hk : FOK a) (h0 : z' 0 10 = z 0 10) (h14 : z' 14 4 = z 14 4) (hI : ∀ c, 26 ≤ c → c ≤ 175 → z' c = z c) (hL : ∀ (f : Int) (c : Nat), 0 ≤ f → f < 10 → fO f.toNat + 7 ≤ c → c ≤ fO f.toNat + 10 → z2' c = z2 c) : CF S z' z2' a := by
  obtain ⟨⟨c1, c2, c3⟩, c4⟩ := hC
  have k10 := hk.1.2
  refine ⟨⟨h0.trans c1, h14.trans c2, fun f f0 f1 => by have := fO_b f0 f1; rw [hI _ (by omega) (by omega)]; exact c3 f f0 f1⟩, fun f f0 f1 => CFo_fr (c4 f f0 f1) (fun c q1 q2 => ?_) (fun c q1 q2 => hL f c f0 (by omega) q1 q2)⟩
  have := fO_b f0 (show f < 10 by omega)
  exact hI c (by omega) (by omega)
/-- what calls of the class keep -/
def frV (z' z : ZM) : Prop := ∀ c, (c = 0 ∨ c = 4 ∨ c = 24 ∨ c = 25 ∨ 176 ≤ c) → z' c = z c
theorem frV_r (z : ZM) : frV z z := fun _ _ => rfl
theorem frV_t {z z2 z3 : ZM} (h1 : frV z2 z) (h2 : frV z3 z2) : frV z3 z := fun c hc => (h2 c hc).trans (h1 c hc)
theorem c_within {X : PX} {d : Nat} {S : SS} {zI zL : ZM} {Q : PQ} {x a b : Int} (hx : inI x) (ha : inI a) (hb : inI b) (h1 : a ≤ x → x ≤ b → Q (some (pI 1)) S zI zL) (h0 : ¬ (a ≤ x ∧ x ≤ b) → Q (some (pI 0)) S zI zL) : wpM X (d + 1) fC_within [pI x, pI a, pI b] S zI zL Q := by
  refine w_within hx ha hb ?_
  by_cases h : a ≤ x ∧ x ≤ b
  · rw [if_pos h]; exact h1 h.1 h.2
  · rw [if_neg h]; exact h0 h
theorem c_exists {X : PX} {d : Nat} {S : SS} {zI zL : ZM} {Q : PQ} (hS : Sk S) {a : FA} (hA : CF S zI zL a) (hk : FOK a) {f : Int} (hf : inI f) (h1 : 0 ≤ f → f < a.1 → Q (some (pI 1)) S zI zL) (h0 : ¬ (0 ≤ f ∧ f < a.1) → Q (some (pI 0)) S zI zL) : wpM X (d + 2) fC_exists [pR 0, pI f] S zI zL Q := by
  obtain ⟨⟨cF0, cF14, cF75⟩, cFf⟩ := hA
  have k10 := hk.1.2
  have k00' := hk.1.1
  refine wp_in (C := c_C_exists) (ls := [some (pR 0), some (pI f)]) rfl rfl rfl rfl rfl ?_
  refine r_iload_n rfl rfl ?_
  refine r_iconst rfl ?_
  refine r_aload_n rfl rfl ?_
  refine r_getI rfl (so0 hS) ?_
  rw [cF0]
  refine r_iconst rfl ?_
  refine r_isub rfl ?_
  refine r_cS3 rfl (by decide) (Nat.le_of_ble_eq_true rfl) rfl rfl (c_within hf (by unfold inI; omega) (by unfold inI; omega) (fun p q => ?_) (fun p => ?_))
  · skip
    refine r_zret rfl (by first | exact Or.inl rfl | exact Or.inr rfl | assumption) ?_
    exact h1 p (by omega)
  · skip
    refine r_zret rfl (by first | exact Or.inl rfl | exact Or.inr rfl | assumption) ?_
    exact h0 (by omega)
theorem c_isPrime {X : PX} {d : Nat} {S : SS} {zI zL : ZM} {Q : PQ} {q : Int} (hq : inI q) (h1 : (q = 2 ∨ q = 3 ∨ q = 5 ∨ q = 7) → Q (some (pI 1)) S zI zL) (h0 : ¬ (q = 2 ∨ q = 3 ∨ q = 5 ∨ q = 7) → Q (some (pI 0)) S zI zL) : wpM X (d + 1) fC_isPrime [pI q] S zI zL Q := by
  refine wp_in (C := c_C_isPrime) (ls := [some (pI q)]) rfl rfl rfl rfl rfl ?_
  refine r_iload_n rfl rfl ?_
  refine r_iconst rfl ?_
  refine r_icmp_eq rfl hq (by unfold inI; omega) (fun h2 => ?_) (fun h2 => ?_)
  · skip
    refine r_iconst rfl ?_
    refine r_goto rfl ?_
    refine r_zret rfl (by first | exact Or.inl rfl | exact Or.inr rfl | assumption) ?_
    exact h1 (by omega)
  · skip
    refine r_iload_n rfl rfl ?_
    refine r_iconst rfl ?_
    refine r_icmp_eq rfl hq (by unfold inI; omega) (fun h5 => ?_) (fun h5 => ?_)
    · skip
      refine r_iconst rfl ?_
      refine r_goto rfl ?_
      refine r_zret rfl (by first | exact Or.inl rfl | exact Or.inr rfl | assumption) ?_
      exact h1 (by omega)
    · skip
      refine r_iload_n rfl rfl ?_
      refine r_iconst rfl ?_
      refine r_icmp_eq rfl hq (by unfold inI; omega) (fun h8 => ?_) (fun h8 => ?_)
      · skip
        refine r_iconst rfl ?_
        refine r_goto rfl ?_
        refine r_zret rfl (by first | exact Or.inl rfl | exact Or.inr rfl | assumption) ?_
        exact h1 (by omega)
      · skip
        refine r_iload_n rfl rfl ?_
        refine r_bipush rfl ?_
        refine r_icmp_ne rfl hq (by unfold inI; omega) (fun h11 => ?_) (fun h11 => ?_)
        · skip
          refine r_iconst rfl ?_
          refine r_zret rfl (by first | exact Or.inl rfl | exact Or.inr rfl | assumption) ?_
          exact h0 (by omega)
        · skip
          refine r_iconst rfl ?_
          refine r_goto rfl ?_
          refine r_zret rfl (by first | exact Or.inl rfl | exact Or.inr rfl | assumption) ?_
          exact h1 (by omega)
theorem c_isUnder {X : PX} {d : Nat} {S : SS} {zI zL : ZM} {Q : PQ} {k u : Int} (hk : inI k) (hu : inI u) (g1 : (u = 0 ∨ k = u ∨ (u = 1 ∧ k = 2)) → Q (some (pI 1)) S zI zL) (g0 : ¬ (u = 0 ∨ k = u ∨ (u = 1 ∧ k = 2)) → Q (some (pI 0)) S zI zL) : wpM X (d + 1) fC_isUnder [pI k, pI u] S zI zL Q := by
  refine wp_in (C := c_C_isUnder) (ls := [some (pI k), some (pI u)]) rfl rfl rfl rfl rfl ?_
  refine r_iload_n rfl rfl ?_
  refine r_if_eq rfl hu (fun h1 => ?_) (fun h1 => ?_)
  · skip
    refine r_iconst rfl ?_
    refine r_goto rfl ?_
    refine r_zret rfl (by first | exact Or.inl rfl | exact Or.inr rfl | assumption) ?_
    exact g1 (by omega)
  · skip
    refine r_iload_n rfl rfl ?_
    refine r_iload_n rfl rfl ?_
    refine r_icmp_eq rfl hk hu (fun h4 => ?_) (fun h4 => ?_)
    · skip
      refine r_iconst rfl ?_
      refine r_goto rfl ?_
      refine r_zret rfl (by first | exact Or.inl rfl | exact Or.inr rfl | assumption) ?_
      exact g1 (by omega)
    · skip
      refine r_iload_n rfl rfl ?_
      refine r_iconst rfl ?_
      refine r_icmp_ne rfl hk (by unfold inI; omega) (fun h7 => ?_) (fun h7 => ?_)
      · skip
        refine r_iconst rfl ?_
        refine r_zret rfl (by first | exact Or.inl rfl | exact Or.inr rfl | assumption) ?_
        exact g0 (by omega)
      · skip
        refine r_iload_n rfl rfl ?_
        refine r_iconst rfl ?_
        refine r_icmp_ne rfl hu (by unfold inI; omega) (fun h10 => ?_) (fun h10 => ?_)
        · skip
          refine r_iconst rfl ?_
          refine r_zret rfl (by first | exact Or.inl rfl | exact Or.inr rfl | assumption) ?_
          exact g0 (by omega)
        · skip
          refine r_iconst rfl ?_
          refine r_goto rfl ?_
          refine r_zret rfl (by first | exact Or.inl rfl | exact Or.inr rfl | assumption) ?_
          exact g1 (by omega)
theorem c_hasTerms {X : PX} {d : Nat} {S : SS} {zI zL : ZM} {Q : PQ} (hS : Sk S) {a : FA} (hA : CF S zI zL a) (hk : FOK a) {f : Int} (hf : inI f) (h1 : 0 ≤ f → f < a.1 → 0 < gN a f → Q (some (pI 1)) S zI zL) (h0 : ¬ (0 ≤ f ∧ f < a.1 ∧ 0 < gN a f) → Q (some (pI 0)) S zI zL) : wpM X (d + 3) fC_hasTerms [pR 0, pI f] S zI zL Q := by
  have hA0 := hA
  obtain ⟨⟨cF0, cF14, cF75⟩, cFf⟩ := hA
  have k10 := hk.1.2
  have k00' := hk.1.1
  refine wp_in (C := c_C_hasTerms) (ls := [some (pR 0), some (pI f)]) rfl rfl rfl rfl rfl ?_
  refine r_aload_n rfl rfl ?_
  refine r_iload_n rfl rfl ?_
  refine r_cV2 rfl (so0 hS) (Nat.le_of_ble_eq_true rfl) rfl rfl (c_exists hS hA0 hk hf (fun p q => ?_) (fun p => ?_))
  · skip
    refine r_if_eq1 rfl ?_
    have ef : 0 ≤ f ∧ f < a.1 := ⟨p, q⟩
    have f10 : f < 10 := by omega
    obtain ⟨rF, rG⟩ := c_F hS p f10
    have hform := sk_form hS (k := f.toNat) (by omega)
    have hfo := hform.1
    obtain ⟨hFH, hkd, hdr, hcv⟩ := cFf f p q
    obtain ⟨hR, hS2, hkb, hk12⟩ := hk.2 f p q
    have e4 := hFH.1
    have hn0 := hR.1
    have hn40 := hR.2.1
    
    refine r_aload_n rfl rfl ?_
    refine r_getR rfl (so0 hS) (sr0_0 hS) ?_
    refine r_iload_n rfl rfl ?_
    refine r_aald rfl (sw1 hS) (by decide) (by omega) (by omega) rF ?_
    refine r_getI rfl (by assumption) ?_
    rw [e4]
    refine r_if_le rfl (by unfold inI; omega) (fun h9 => ?_) (fun h9 => ?_)
    · skip
      refine r_iconst rfl ?_
      refine r_zret rfl (by first | exact Or.inl rfl | exact Or.inr rfl | assumption) ?_
      exact h0 (by omega)
    · skip
      refine r_iconst rfl ?_
      refine r_goto rfl ?_
      refine r_zret rfl (by first | exact Or.inl rfl | exact Or.inr rfl | assumption) ?_
      exact h1 p q (by omega)
  · skip
    refine r_if_eq0 rfl ?_
    refine r_iconst rfl ?_
    refine r_zret rfl (by first | exact Or.inl rfl | exact Or.inr rfl | assumption) ?_
    exact h0 (fun k => p ⟨k.1, k.2.1⟩)
theorem c_findTerm {X : PX} {d : Nat} {S : SS} {zI zL : ZM} {Q : PQ} (hS : Sk S) {a : FA} (hA : CF S zI zL a) (hk : FOK a) {f i j : Int} (hf : inI f) (hi : inI i) (hj : inI j) (h1 : 0 ≤ f → f < a.1 → Q (some (pI (fdA a f i j))) S zI zL) (h0 : ¬ (0 ≤ f ∧ f < a.1) → Q (some (pI (-1))) S zI zL) : wpM X (d + 3) fC_findTerm [pR 0, pI f, pI i, pI j] S zI zL Q := by
  have hA0 := hA
  obtain ⟨⟨cF0, cF14, cF75⟩, cFf⟩ := hA
  have k10 := hk.1.2
  have k00' := hk.1.1
  refine wp_in (C := c_C_findTerm) (ls := [some (pR 0), some (pI f), some (pI i), some (pI j)]) rfl rfl rfl rfl rfl ?_
  refine r_aload_n rfl rfl ?_
  refine r_iload_n rfl rfl ?_
  refine r_cV2 rfl (so0 hS) (Nat.le_of_ble_eq_true rfl) rfl rfl (c_exists hS hA0 hk hf (fun p q => ?_) (fun p => ?_))
  · skip
    refine r_if_eq1 rfl ?_
    have ef : 0 ≤ f ∧ f < a.1 := ⟨p, q⟩
    have f10 : f < 10 := by omega
    obtain ⟨rF, rG⟩ := c_F hS p f10
    have hform := sk_form hS (k := f.toNat) (by omega)
    have hfo := hform.1
    obtain ⟨hFH, hkd, hdr, hcv⟩ := cFf f p q
    obtain ⟨hR, hS2, hkb, hk12⟩ := hk.2 f p q
    have e4 := hFH.1
    have hn0 := hR.1
    have hn40 := hR.2.1
    
    refine r_aload_n rfl rfl ?_
    refine r_getR rfl (so0 hS) (sr0_0 hS) ?_
    refine r_iload_n rfl rfl ?_
    refine r_aald rfl (sw1 hS) (by decide) (by omega) (by omega) rF ?_
    refine r_iload_n rfl rfl ?_
    refine r_iload_n rfl rfl ?_
    refine r_cV3 rfl (by assumption) (Nat.le_of_ble_eq_true rfl) rfl rfl (w_find (d := d + 1) hform hFH hR hi hj ?_)
    refine r_goto rfl ?_
    refine r_iret rfl ?_
    exact h1 p q
  · skip
    refine r_if_eq0 rfl ?_
    refine r_iconst rfl ?_
    refine r_iret rfl ?_
    exact h0 p
theorem c_goTo {X : PX} {d : Nat} {S : SS} {zI zL : ZM} {Q : PQ} (hS : Sk S) {x y q : Int} (hx : inI x) (hy : inI y) (hq : inI q) (h1 : ptOK x y q → ∀ z2, (∀ c, c ≠ 23 → z2 c = zL c) → PH z2 23 (rdA x q) (rdB x q) (rdA y q) (rdB y q) → Q (some (pI 1)) S zI z2) (h0 : ¬ ptOK x y q → Q (some (pI 0)) S zI zL) : wpM X (d + 3) fC_goTo [pR 0, pI x, pI y, pI q] S zI zL Q := by
  refine wp_in (C := c_C_goTo) (ls := [some (pR 0), some (pI x), some (pI y), some (pI q)]) rfl rfl rfl rfl rfl ?_
  refine r_iload_n rfl rfl ?_
  refine r_sipush rfl ?_
  refine r_sipush rfl ?_
  refine r_cS3 rfl (by decide) (Nat.le_of_ble_eq_true rfl) rfl rfl (c_within (d := d + 1) hx (by unfold inI; omega) (by unfold inI; omega) (fun p1 p2 => ?_) (fun p => ?_))
  · skip
    refine r_if_eq1 rfl ?_
    refine r_iload_n rfl rfl ?_
    refine r_sipush rfl ?_
    refine r_sipush rfl ?_
    refine r_cS3 rfl (by decide) (Nat.le_of_ble_eq_true rfl) rfl rfl (c_within (d := d + 1) hy (by unfold inI; omega) (by unfold inI; omega) (fun p3 p4 => ?_) (fun p => ?_))
    · skip
      refine r_if_eq1 rfl ?_
      refine r_iload_n rfl rfl ?_
      refine r_iconst rfl ?_
      refine r_bipush rfl ?_
      refine r_cS3 rfl (by decide) (Nat.le_of_ble_eq_true rfl) rfl rfl (c_within (d := d + 1) hq (by unfold inI; omega) (by unfold inI; omega) (fun p5 p6 => ?_) (fun p => ?_))
      · skip
        refine r_if_ne1 rfl ?_
        refine r_aload_n rfl rfl ?_
        refine r_getR rfl (so0 hS) (sr0_8 hS) ?_
        refine r_iload_n rfl rfl ?_
        refine r_i2l rfl hx ?_
        refine r_iload_n rfl rfl ?_
        refine r_i2l rfl hy ?_
        refine r_iload_n rfl rfl ?_
        refine r_i2l rfl hq ?_
        refine r_cV4 rfl (so23 hS) (Nat.le_of_ble_eq_true rfl) rfl rfl (w_reduce (so23 hS) (by omega) (by omega) (by omega) ?_)
        refine r_iconst rfl ?_
        refine r_zret rfl (by first | exact Or.inl rfl | exact Or.inr rfl | assumption) ?_
        refine h1 ⟨⟨p1, p2⟩, ⟨p3, p4⟩, p5, p6⟩ _ (fun c hc => by rw [zput_row hc, zput_row hc, zput_row hc, zput_row hc]) ?_
        unfold PH
        unfold zput
        simp
      · skip
        refine r_if_ne0 rfl ?_
        refine r_iconst rfl ?_
        refine r_zret rfl (by first | exact Or.inl rfl | exact Or.inr rfl | assumption) ?_
        exact h0 (fun k => p k.2.2)
    · skip
      refine r_if_eq0 rfl ?_
      refine r_iconst rfl ?_
      refine r_zret rfl (by first | exact Or.inl rfl | exact Or.inr rfl | assumption) ?_
      exact h0 (fun k => p k.2.1)
  · skip
    refine r_if_eq0 rfl ?_
    refine r_iconst rfl ?_
    refine r_zret rfl (by first | exact Or.inl rfl | exact Or.inr rfl | assumption) ?_
    exact h0 (fun k => p k.1)
theorem c_ring {S : SS} (hS : Sk S) : isRing S 5 := ⟨so5 hS, ⟨sw6 hS, sw7 hS, sw8 hS⟩, sr5_0 hS, sr5_1 hS, sr5_2 hS⟩
def frG5 (z' z : ZM) : Prop := ∀ c, c ≠ 5 → c ≠ 6 → c ≠ 7 → c ≠ 8 → z' c = z c
theorem frG5_r (z : ZM) : frG5 z z := fun _ _ _ _ _ => rfl
theorem frG5_t {z z2 z3 : ZM} (h1 : frG5 z2 z) (h2 : frG5 z3 z2) : frG5 z3 z := fun c a b e f => (h2 c a b e f).trans (h1 c a b e f)
theorem frV_G5 {z z2 : ZM} (h : frG5 z2 z) : frV z2 z := fun c hc => h c (by omega) (by omega) (by omega) (by omega)
theorem CF_G5 {S : SS} {z z2 zL zL2 : ZM} {a : FA} (hC : CF S z zL a) (hk : FOK a) (h : frG5 z2 z) (hL : ∀ (f : Int) (c : Nat), 0 ≤ f → f < 10 → fO f.toNat + 7 ≤ c → c ≤ fO f.toNat + 10 → zL2 c = zL c) : CF S z2 zL2 a := CF_fr hC hk (by rw [h 0 (by decide) (by decide) (by decide) (by decide)]) (by rw [h 14 (by decide) (by decide) (by decide) (by decide)]) (fun c c0 c1 => h c (by omega) (by omega) (by omega) (by omega)) hL
theorem radP_fr {z z' : ZM} {m a b : Int} {A B : Int → Int} (h : radP z z' 5 m A B a b) : frG5 z' z := fun c c5 c6 c7 _ => h.1 c c5 c6 c7
theorem RGH_up {z : ZM} {m u v : Int} {A B : Int → Int} (h : RGH z 5 (m + 1) (updF A m u) (updF B m v)) (ha : A m = u) (hb : B m = v) : RGH z 5 (m + 1) A B := by
  refine ⟨h.1, fun t t0 t1 => ?_⟩
  obtain ⟨h1, h2⟩ := h.2 t t0 t1
  unfold updF at h1 h2
  by_cases e : t = m
  · rw [if_pos e] at h1 h2; rw [e] at h1 h2 ⊢; exact ⟨h1.trans ha.symm, h2.trans hb.symm⟩
  · rw [if_neg e] at h1 h2; exact ⟨h1, h2⟩
theorem c_areaOf {X : PX} {d : Nat} {S : SS} {zI zL : ZM} {Q : PQ} (hS : Sk S) {h : Nat} (h26 : 26 ≤ h) (hF : isForm S h) {n : Int} {I J V : Int → Int} (hT : FH zI h n I J V) (hR : FR n I J V) (hQ : ∀ z, frG5 z zI → Q (some (pI (areaR n I J))) S z zL) : wpM X (d + 4) fC_areaOf [pR 0, pR h] S zI zL Q := by
  obtain ⟨hfo, ⟨fr1, fr2, fr3⟩, ff0, ff1, ff2⟩ := hF
  have hn0 := hR.1
  have hn40 := hR.2.1
  have lp : ∀ k : Int, k ≤ n → 0 ≤ k → ∀ z : ZM, frG5 z zI → RGH z 5 k I J → Run X (d + 3) c_C_areaOf 5 [some (pR 0), some (pR h), some (pI k)] [] S z zL 0 0 Q := by
    refine loop_up _ n (fun k hk ih k0 z hz hM => ?_)
    have hT2 : FH z h n I J V := FH_fr hT (fun c c0 c1 => hz c (by omega) (by omega) (by omega) (by omega))
    have e4 := hT2.1
    refine r_iload_n rfl rfl ?_
    refine r_aload_n rfl rfl ?_
    refine r_getI rfl (by assumption) ?_
    rw [e4]
    refine r_icmp_ge rfl (by unfold inI; omega) (by unfold inI; omega) (fun h8 => ?_) (fun h8 => ?_)
    · skip
      refine r_aload_n rfl rfl ?_
      refine r_getR rfl (so0 hS) (sr0_4 hS) ?_
      refine r_cV1 rfl (so5 hS) (Nat.le_of_ble_eq_true rfl) rfl rfl (w_rarea (c_ring hS) hM ⟨k0, by omega, fun t t0 t1 => by have := hR.2.2 t t0 (by omega); omega⟩ (fun z3 hz3 => ?_))
      refine r_iret rfl ?_
      have ek : k = n := by omega
      rw [ek]
      exact hQ z3 (frG5_t hz (fun c _ _ _ c8 => hz3 c c8))
    · skip
      obtain ⟨g1, g2, -⟩ := hT2.2 k k0 (by omega)
      refine r_aload_n rfl rfl ?_
      refine r_getR rfl (so0 hS) (sr0_4 hS) ?_
      refine r_aload_n rfl rfl ?_
      refine r_getR rfl (by assumption) (by assumption) ?_
      refine r_iload_n rfl rfl ?_
      refine r_iald rfl (by assumption) (by omega) (by omega) ?_
      rw [g1]
      refine r_aload_n rfl rfl ?_
      refine r_getR rfl (by assumption) (by assumption) ?_
      refine r_iload_n rfl rfl ?_
      refine r_iald rfl (by assumption) (by omega) (by omega) ?_
      rw [g2]
      refine r_cV3 rfl (so5 hS) (Nat.le_of_ble_eq_true rfl) rfl rfl (w_radd (c_ring hS) hM k0 (by omega) (fun z3 hz3 => ?_))
      refine r_iinc rfl rfl ?_
      refine r_goto rfl ?_
      exact ih (by omega) (by omega) z3 (frG5_t hz (radP_fr hz3)) (RGH_up hz3.2 rfl rfl)
  refine wp_in (C := c_C_areaOf) (ls := [some (pR 0), some (pR h), none]) rfl rfl rfl rfl rfl ?_
  refine r_aload_n rfl rfl ?_
  refine r_getR rfl (so0 hS) (sr0_4 hS) ?_
  refine r_cV1 rfl (so5 hS) (Nat.le_of_ble_eq_true rfl) rfl rfl (w_rclear (c_ring hS) ?_)
  refine r_iconst rfl ?_
  refine r_istore_n rfl (Nat.le_of_ble_eq_true rfl) ?_
  exact lp 0 hn0 (Int.le_refl _) _ (fun c c5 _ _ _ => zput_row c5) ⟨zput_at, fun t t0 t1 => by omega⟩
