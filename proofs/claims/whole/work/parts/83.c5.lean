/-! THE CLASS: questions that draw nothing -/
theorem rdP {x b : Int} (hb : 0 < b) : rdA x b = x.tdiv (gc x b) ∧ rdB x b = b.tdiv (gc x b) := by
  unfold rdA rdB sg
  rw [if_neg (by omega), Int.one_mul]
  exact ⟨rfl, rfl⟩
theorem CF_P23 {S : SS} {z zL zL2 : ZM} {a : FA} (hC : CF S z zL a) (hk : FOK a) (h : ∀ c, c ≠ 23 → zL2 c = zL c) : CF S z zL2 a := CF_fr hC hk rfl rfl (fun _ _ _ => rfl) (fun f c f0 f1 c0 c1 => h c (by have := fO_b f0 f1; omega))
theorem frV_P23 {z z2 : ZM} (h : ∀ c, c ≠ 23 → z2 c = z c) : frV z2 z := fun c hc => h c (by omega)
theorem c_number {X : PX} {d : Nat} {S : SS} {zI zL : ZM} {Q : PQ} (hS : Sk S) {a : FA} (hA : CF S zI zL a) (hk : FOK a) {f i j : Int} (hf : inI f) (hi : inI i) (hj : inI j) (hQ : Q (some (pI (sNum a f i j))) S zI zL) : wpM X (d + 4) fC_number [pR 0, pI f, pI i, pI j] S zI zL Q := by
  have hA0 := hA
  obtain ⟨⟨cF0, cF14, cF75⟩, cFf⟩ := hA
  have k10 := hk.1.2
  have k00' := hk.1.1
  unfold sNum at hQ
  have rest : ∀ k, ((0 ≤ f ∧ f < a.1) ∧ k = fnd (gN a f) (gI a f) (gJ a f) i j) ∨ (¬ (0 ≤ f ∧ f < a.1) ∧ k = -1) → Run X (d + 3) c_C_number 5 [some (pR 0), some (pI f), some (pI i), some (pI j), none] [pI k] S zI zL 0 0 Q := by
    intro k hkk
    have bk : -1 ≤ k ∧ k ≤ 40 := by
      rcases hkk with ⟨q1, q2⟩ | ⟨-, q⟩
      · obtain ⟨hR, -, -⟩ := hk.2 f q1.1 q1.2
        have h1 := fnd_in (gN a f) (gI a f) (gJ a f) i j hR.1
        have h2 := hR.2.1
        omega
      · omega
    refine r_istore rfl (Nat.le_of_ble_eq_true rfl) ?_
    refine r_iload rfl rfl ?_
    refine r_iconst rfl ?_
    refine r_icmp_ne rfl (by unfold inI; omega) (by unfold inI; omega) (fun h8 => ?_) (fun h8 => ?_)
    · skip
      obtain ⟨⟨p, q⟩, ekk⟩ : (0 ≤ f ∧ f < a.1) ∧ k = fnd (gN a f) (gI a f) (gJ a f) i j := by
        rcases hkk with q | ⟨-, q⟩
        · exact q
        · omega
      have ef : 0 ≤ f ∧ f < a.1 := ⟨p, q⟩
      have f10 : f < 10 := by omega
      obtain ⟨rF, rG⟩ := c_F hS p f10
      have hform := sk_form hS (k := f.toNat) (by omega)
      have hfo := hform.1
      obtain ⟨hFH, hkd, hdr, hcv⟩ := cFf f p q
      obtain ⟨hR, hS2, hkb, hk12⟩ := hk.2 f p q
      have e4 := hFH.1
      have hn0 := hR.1
      have hn40 := hR.2.1
      have fi := fnd_in (gN a f) (gI a f) (gJ a f) i j hn0
      rw [← ekk] at fi
      obtain ⟨g1, g2, g3⟩ := hFH.2 k (by omega) (by omega)
      have hrw := hform.2.1.2.2
      have hrr := hform.2.2.2.2
      refine r_aload_n rfl rfl ?_
      refine r_getR rfl (so0 hS) (sr0_0 hS) ?_
      refine r_iload_n rfl rfl ?_
      refine r_aald rfl (sw1 hS) (by decide) (by omega) (by omega) rF ?_
      refine r_getR rfl hfo hrr ?_
      refine r_iload rfl rfl ?_
      refine r_iald rfl hrw (by omega) (by omega) ?_
      rw [g3]
      refine r_iret rfl ?_
      rw [← ekk, if_pos ⟨ef, h8⟩] at hQ; exact hQ
    · skip
      refine r_ldc rfl ?_
      refine r_goto rfl ?_
      refine r_iret rfl ?_
      rw [if_neg (fun q => by rcases hkk with ⟨-, q2⟩ | ⟨q1, -⟩; exact q.2 (by rw [← q2]; exact h8); exact q1 q.1)] at hQ; exact hQ
  refine wp_in (C := c_C_number) (ls := [some (pR 0), some (pI f), some (pI i), some (pI j), none]) rfl rfl rfl rfl rfl ?_
  refine r_aload_n rfl rfl ?_
  refine r_iload_n rfl rfl ?_
  refine r_iload_n rfl rfl ?_
  refine r_iload_n rfl rfl ?_
  refine r_cV4 rfl (so0 hS) (Nat.le_of_ble_eq_true rfl) rfl rfl (c_findTerm hS hA0 hk hf hi hj (fun p q => ?_) (fun p => ?_))
  · exact rest _ (Or.inl ⟨⟨p, q⟩, rfl⟩)
  · exact rest _ (Or.inr ⟨p, rfl⟩)
set_option maxHeartbeats 1000000 in
theorem c_leastAt {X : PX} {d : Nat} {S : SS} {zI zL : ZM} {Q : PQ} (hS : Sk S) {a : FA} (hA : CF S zI zL a) (hk : FOK a) {f x y b : Int} (hf : inI f) (hx : inI x) (hy : inI y) (hq : inI b) (hQ : ∀ z2, frV z2 zL → CF S zI z2 a → Q (some (pI (sLea a f x y b))) S zI z2) : wpM X (d + 5) fC_leastAt [pR 0, pI f, pI x, pI y, pI b] S zI zL Q := by
  have hA0 := hA
  obtain ⟨⟨cF0, cF14, cF75⟩, cFf⟩ := hA
  have k10 := hk.1.2
  have k00' := hk.1.1
  unfold sLea at hQ
  refine wp_in (C := c_C_leastAt) (ls := [some (pR 0), some (pI f), some (pI x), some (pI y), some (pI b)]) rfl rfl rfl rfl rfl ?_
  refine r_aload_n rfl rfl ?_
  refine r_iload_n rfl rfl ?_
  refine r_cV2 rfl (so0 hS) (Nat.le_of_ble_eq_true rfl) rfl rfl (c_hasTerms (d := d + 1) hS hA0 hk hf (fun p q p3 => ?_) (fun p0 => ?_))
  · skip
    refine r_if_eq1 rfl ?_
    refine r_aload_n rfl rfl ?_
    refine r_iload_n rfl rfl ?_
    refine r_iload_n rfl rfl ?_
    refine r_iload rfl rfl ?_
    refine r_cV4 rfl (so0 hS) (Nat.le_of_ble_eq_true rfl) rfl rfl (c_goTo (d := d + 1) hS hx hy hq (fun hpo z2 hz2 hP => ?_) (fun p0 => ?_))
    · skip
      refine r_if_eq1 rfl ?_
      have ef : 0 ≤ f ∧ f < a.1 := ⟨p, q⟩
      have f10 : f < 10 := by omega
      obtain ⟨rF, rG⟩ := c_F hS p f10
      have hform := sk_form hS (k := f.toNat) (by omega)
      have hfo := hform.1
      obtain ⟨hFH, hkd, hdr, hcv⟩ := cFf f p q
      obtain ⟨hR, hS2, hkb, hk12⟩ := hk.2 f p q
      have e4 := hFH.1
      have hn0 := hR.1
      have hn40 := hR.2.1
      
      refine r_aload_n rfl rfl ?_
      refine r_getR rfl (so0 hS) (sr0_0 hS) ?_
      refine r_iload_n rfl rfl ?_
      refine r_aald rfl (sw1 hS) (by decide) (by omega) (by omega) rF ?_
      refine r_aload_n rfl rfl ?_
      refine r_getR rfl (so0 hS) (sr0_8 hS) ?_
      refine r_cV2 rfl hfo (Nat.le_of_ble_eq_true rfl) rfl rfl (w_countLeast hform hFH hR (so23 hS) hP (pt_PB hpo) ?_)
      refine r_goto rfl ?_
      refine r_iret rfl ?_
      rw [if_pos ⟨⟨ef.1, ef.2, p3⟩, hpo⟩] at hQ; exact hQ z2 (frV_P23 hz2) (CF_P23 hA0 hk hz2)
    · skip
      refine r_if_eq0 rfl ?_
      refine r_bipush rfl ?_
      refine r_iret rfl ?_
      rw [if_neg (fun k => p0 k.2)] at hQ; exact hQ zL (frV_r _) hA0
  · skip
    refine r_if_eq0 rfl ?_
    refine r_bipush rfl ?_
    refine r_iret rfl ?_
    rw [if_neg (fun k => p0 k.1)] at hQ; exact hQ zL (frV_r _) hA0
set_option maxHeartbeats 1000000 in
theorem c_worth {X : PX} {d : Nat} {S : SS} {zI zL : ZM} {Q : PQ} (hS : Sk S) {a : FA} (hA : CF S zI zL a) (hk : FOK a) {f x y b u : Int} (hf : inI f) (hx : inI x) (hy : inI y) (hq : inI b) (hu : inI u) (hQ : ∀ z2, frV z2 zL → CF S zI z2 a → Q (some (pL (sWor a f x y b u))) S zI z2) : wpM X (d + 4) fC_worth [pR 0, pI f, pI x, pI y, pI b, pI u] S zI zL Q := by
  have hA0 := hA
  obtain ⟨⟨cF0, cF14, cF75⟩, cFf⟩ := hA
  have k10 := hk.1.2
  have k00' := hk.1.1
  unfold sWor at hQ
  refine wp_in (C := c_C_worth) (ls := [some (pR 0), some (pI f), some (pI x), some (pI y), some (pI b), some (pI u), none, none, none, none, none, none]) rfl rfl rfl rfl rfl ?_
  refine r_aload_n rfl rfl ?_
  refine r_iload_n rfl rfl ?_
  refine r_cV2 rfl (so0 hS) (Nat.le_of_ble_eq_true rfl) rfl rfl (c_hasTerms hS hA0 hk hf (fun p q p3 => ?_) (fun p0 => ?_))
  · skip
    refine r_if_eq1 rfl ?_
    refine r_aload_n rfl rfl ?_
    refine r_iload_n rfl rfl ?_
    refine r_iload_n rfl rfl ?_
    refine r_iload rfl rfl ?_
    refine r_cV4 rfl (so0 hS) (Nat.le_of_ble_eq_true rfl) rfl rfl (c_goTo hS hx hy hq (fun hpo z2 hz2 hP => ?_) (fun p0 => ?_))
    · skip
      refine r_if_eq1 rfl ?_
      refine r_iload rfl rfl ?_
      refine r_iconst rfl ?_
      refine r_iconst rfl ?_
      refine r_cS3 rfl (by decide) (Nat.le_of_ble_eq_true rfl) rfl rfl (c_within (d := d + 2) hu (by unfold inI; omega) (by unfold inI; omega) (fun u0 u1 => ?_) (fun p0 => ?_))
      · skip
        refine r_if_ne1 rfl ?_
        have ef : 0 ≤ f ∧ f < a.1 := ⟨p, q⟩
        have f10 : f < 10 := by omega
        obtain ⟨rF, rG⟩ := c_F hS p f10
        have hform := sk_form hS (k := f.toNat) (by omega)
        have hfo := hform.1
        obtain ⟨hFH, hkd, hdr, hcv⟩ := cFf f p q
        obtain ⟨hR, hS2, hkb, hk12⟩ := hk.2 f p q
        have e4 := hFH.1
        have hn0 := hR.1
        have hn40 := hR.2.1
        have hPB := pt_PB hpo
        have hbl := below_b hPB
        have hlb := leastS_b hR hPB
        refine r_aload_n rfl rfl ?_
        refine r_getR rfl (so0 hS) (sr0_0 hS) ?_
        refine r_iload_n rfl rfl ?_
        refine r_aald rfl (sw1 hS) (by decide) (by omega) (by omega) rF ?_
        refine r_aload_n rfl rfl ?_
        refine r_getR rfl (so0 hS) (sr0_8 hS) ?_
        refine r_cV2 rfl hfo (Nat.le_of_ble_eq_true rfl) rfl rfl (w_leastWorth hform hFH hR (so23 hS) hP hPB ?_)
        refine r_lstore rfl (Nat.le_of_ble_eq_true rfl) ?_
        refine r_aload_n rfl rfl ?_
        refine r_getR rfl (so0 hS) (sr0_8 hS) ?_
        refine r_cV1 rfl (so23 hS) (Nat.le_of_ble_eq_true rfl) rfl rfl (w_below (d := d + 2) (so23 hS) hP ?_)
        refine r_lstore rfl (Nat.le_of_ble_eq_true rfl) ?_
        refine r_lload rfl rfl ?_
        refine r_lload rfl rfl ?_
        refine r_cS2 rfl (by decide) (Nat.le_of_ble_eq_true rfl) rfl rfl (w_gcd (d := d + 2) (by omega) (by omega) ?_)
        
        refine r_lstore rfl (Nat.le_of_ble_eq_true rfl) ?_
        have hlb2 : -17000000 ≤ lsF a f x y b ∧ lsF a f x y b ≤ 17000000 := hlb
        have gb := trivial
        have ge : 1 ≤ gc (lsF a f x y b) (rdB x b * rdB y b) ∧ gc (lsF a f x y b) (rdB x b * rdB y b) ≤ 17000000 := gc_b hlb2 (by omega) (by decide)
        have rp := rdP (x := lsF a f x y b) (b := rdB x b * rdB y b) (by omega)
        refine r_iload rfl rfl ?_
        refine r_if_ne rfl hu (fun h34 => ?_) (fun h34 => ?_)
        · skip
          refine r_lload rfl rfl ?_
          refine r_lload rfl rfl ?_
          refine r_ldiv rfl (by show inL (rdB x b * rdB y b); unfold inL; omega) (by show inL (gc (lsF a f x y b) (rdB x b * rdB y b)); unfold inL; omega) (by show gc (lsF a f x y b) (rdB x b * rdB y b) ≠ 0; omega) ?_
          refine r_lret rfl ?_
          rw [if_pos ⟨⟨ef.1, ef.2, p3⟩, hpo, u0, u1⟩, if_neg h34, rp.2] at hQ; exact hQ z2 (frV_P23 hz2) (CF_P23 hA0 hk hz2)
        · skip
          refine r_lload rfl rfl ?_
          refine r_goto rfl ?_
          refine r_lload rfl rfl ?_
          refine r_ldiv rfl (by show inL (lsF a f x y b); unfold inL; omega) (by show inL (gc (lsF a f x y b) (rdB x b * rdB y b)); unfold inL; omega) (by show gc (lsF a f x y b) (rdB x b * rdB y b) ≠ 0; omega) ?_
          refine r_lret rfl ?_
          rw [if_pos ⟨⟨ef.1, ef.2, p3⟩, hpo, u0, u1⟩, if_pos (by omega), rp.1] at hQ; exact hQ z2 (frV_P23 hz2) (CF_P23 hA0 hk hz2)
      · skip
        refine r_if_ne0 rfl ?_
        refine r_ldc2_w rfl ?_
        refine r_lret rfl ?_
        rw [if_neg (fun k => p0 k.2.2)] at hQ; exact hQ z2 (frV_P23 hz2) (CF_P23 hA0 hk hz2)
    · skip
      refine r_if_eq0 rfl ?_
      refine r_ldc2_w rfl ?_
      refine r_lret rfl ?_
      rw [if_neg (fun k => p0 k.2.1)] at hQ; exact hQ zL (frV_r _) hA0
  · skip
    refine r_if_eq0 rfl ?_
    refine r_ldc2_w rfl ?_
    refine r_lret rfl ?_
    rw [if_neg (fun k => p0 k.1)] at hQ; exact hQ zL (frV_r _) hA0
theorem c_taken {X : PX} {d : Nat} {S : SS} {zI zL : ZM} {Q : PQ} (hS : Sk S) {a : FA} (hA : CF S zI zL a) (hk : FOK a) {f k : Int} (hf : inI f) (hk2 : inI k) (hQ : Q (some (pI (sTak a f k))) S zI zL) : wpM X (d + 3) fC_taken [pR 0, pI f, pI k] S zI zL Q := by
  have hA0 := hA
  obtain ⟨⟨cF0, cF14, cF75⟩, cFf⟩ := hA
  have k10 := hk.1.2
  have k00' := hk.1.1
  unfold sTak at hQ
  refine wp_in (C := c_C_taken) (ls := [some (pR 0), some (pI f), some (pI k)]) rfl rfl rfl rfl rfl ?_
  refine r_iload_n rfl rfl ?_
  refine r_iconst rfl ?_
  refine r_iconst rfl ?_
  refine r_cS3 rfl (by decide) (Nat.le_of_ble_eq_true rfl) rfl rfl (c_within (d := d + 1) hk2 (by unfold inI; omega) (by unfold inI; omega) (fun k0 k1 => ?_) (fun p0 => ?_))
  · skip
    refine r_if_ne1 rfl ?_
    refine r_aload_n rfl rfl ?_
    refine r_iload_n rfl rfl ?_
    refine r_cV2 rfl (so0 hS) (Nat.le_of_ble_eq_true rfl) rfl rfl (c_exists hS hA0 hk hf (fun p q => ?_) (fun p => ?_))
    · skip
      refine r_if_ne1 rfl ?_
      have ef : 0 ≤ f ∧ f < a.1 := ⟨p, q⟩
      have f10 : f < 10 := by omega
      obtain ⟨rF, rG⟩ := c_F hS p f10
      have hform := sk_form hS (k := f.toNat) (by omega)
      have hfo := hform.1
      obtain ⟨hFH, hkd, hdr, hcv⟩ := cFf f p q
      obtain ⟨hR, hS2, hkb, hk12⟩ := hk.2 f p q
      have e4 := hFH.1
      have hn0 := hR.1
      have hn40 := hR.2.1
      rw [if_neg (fun k => k ⟨k0, k1⟩), if_neg (fun k => k ef)] at hQ
      refine r_aload_n rfl rfl ?_
      refine r_getR rfl (so0 hS) (sr0_0 hS) ?_
      refine r_iload_n rfl rfl ?_
      refine r_aald rfl (sw1 hS) (by decide) (by omega) (by omega) rF ?_
      refine r_getI rfl hfo ?_
      rw [hkd]
      refine r_iload_n rfl rfl ?_
      refine r_cS2 rfl (by decide) (Nat.le_of_ble_eq_true rfl) rfl rfl (c_isUnder (d := d + 1) (by show inI (gK a f); unfold inI; omega) hk2 (fun hu => ?_) (fun hu => ?_))
      · skip
        refine r_if_eq1 rfl ?_
        refine r_aload_n rfl rfl ?_
        refine r_getR rfl (so0 hS) (sr0_0 hS) ?_
        refine r_iload_n rfl rfl ?_
        refine r_aald rfl (sw1 hS) (by decide) (by omega) (by omega) rF ?_
        refine r_getI rfl hfo ?_
        rw [e4]
        refine r_goto rfl ?_
        refine r_iret rfl ?_
        rw [if_pos hu] at hQ; exact hQ
      · skip
        refine r_if_eq0 rfl ?_
        refine r_bipush rfl ?_
        refine r_iret rfl ?_
        rw [if_neg hu] at hQ; exact hQ
    · skip
      refine r_if_ne0 rfl ?_
      refine r_bipush rfl ?_
      refine r_iret rfl ?_
      rw [if_neg (fun k => k ⟨k0, k1⟩), if_pos p] at hQ; exact hQ
  · skip
    refine r_if_ne0 rfl ?_
    refine r_bipush rfl ?_
    refine r_iret rfl ?_
    rw [if_pos p0] at hQ; exact hQ
def CRw (z z2 : ZM) (rn : Int) (r : Int → Int) : Prop := z 0 11 = rn ∧ ∀ k, 0 ≤ k → k < rn → z2 4 k = r k
def sFog (rn i : Int) : Int := if 0 ≤ i ∧ i < rn then 1 else -2
def nFog (rn : Int) (r : Int → Int) (i v : Int) : Int → Int := if 0 ≤ i ∧ i < rn then updF r i v else r
theorem c_row {X : PX} {d : Nat} {S : SS} {zI zL : ZM} {Q : PQ} (hS : Sk S) {rn i : Int} {r : Int → Int} (hr : CRw zI zL rn r) (hn : 0 ≤ rn ∧ rn ≤ 756) (hi : inI i) (hQ : Q (some (pL (sRow rn r i))) S zI zL) : wpM X (d + 2) fC_row [pR 0, pI i] S zI zL Q := by
  obtain ⟨e11, hel⟩ := hr
  unfold sRow at hQ
  refine wp_in (C := c_C_row) (ls := [some (pR 0), some (pI i)]) rfl rfl rfl rfl rfl ?_
  refine r_iload_n rfl rfl ?_
  refine r_iconst rfl ?_
  refine r_aload_n rfl rfl ?_
  refine r_getI rfl (so0 hS) ?_
  rw [e11]
  refine r_iconst rfl ?_
  refine r_isub rfl ?_
  refine r_cS3 rfl (by decide) (Nat.le_of_ble_eq_true rfl) rfl rfl (c_within (d := d) hi (by unfold inI; omega) (by unfold inI; omega) (fun i0 i1 => ?_) (fun p0 => ?_))
  · skip
    refine r_if_eq1 rfl ?_
    refine r_aload_n rfl rfl ?_
    refine r_getR rfl (so0 hS) (sr0_3 hS) ?_
    refine r_iload_n rfl rfl ?_
    refine r_lald rfl (sw4 hS) (by omega) (by omega) ?_
    rw [hel i i0 (by omega)]
    refine r_goto rfl ?_
    refine r_lret rfl ?_
    rw [if_pos ⟨i0, by omega⟩] at hQ; exact hQ
  · skip
    refine r_if_eq0 rfl ?_
    refine r_ldc2_w rfl ?_
    refine r_lret rfl ?_
    rw [if_neg (by omega)] at hQ; exact hQ
theorem c_forge {X : PX} {d : Nat} {S : SS} {zI zL : ZM} {Q : PQ} (hS : Sk S) {rn i v : Int} {r : Int → Int} (hr : CRw zI zL rn r) (hn : 0 ≤ rn ∧ rn ≤ 756) (hi : inI i) (hQ : ∀ z2, (∀ c, c ≠ 4 → z2 c = zL c) → CRw zI z2 rn (nFog rn r i v) → Q (some (pI (sFog rn i))) S zI z2) : wpM X (d + 2) fC_forge [pR 0, pI i, pL v] S zI zL Q := by
  have hr0 := hr
  obtain ⟨e11, hel⟩ := hr
  unfold sFog nFog at hQ
  refine wp_in (C := c_C_forge) (ls := [some (pR 0), some (pI i), some (pL v), none]) rfl rfl rfl rfl rfl ?_
  refine r_iload_n rfl rfl ?_
  refine r_iconst rfl ?_
  refine r_aload_n rfl rfl ?_
  refine r_getI rfl (so0 hS) ?_
  rw [e11]
  refine r_iconst rfl ?_
  refine r_isub rfl ?_
  refine r_cS3 rfl (by decide) (Nat.le_of_ble_eq_true rfl) rfl rfl (c_within (d := d) hi (by unfold inI; omega) (by unfold inI; omega) (fun i0 i1 => ?_) (fun p0 => ?_))
  · skip
    refine r_if_ne1 rfl ?_
    refine r_aload_n rfl rfl ?_
    refine r_getR rfl (so0 hS) (sr0_3 hS) ?_
    refine r_iload_n rfl rfl ?_
    refine r_lload_n rfl rfl ?_
    refine r_last rfl (sw4 hS) (by omega) (by omega) ?_
    refine r_iconst rfl ?_
    refine r_iret rfl ?_
    rw [if_pos ⟨i0, by omega⟩, if_pos ⟨i0, by omega⟩] at hQ
    refine hQ _ (fun c hc => zput_row hc) ⟨e11, fun k k0 k1 => ?_⟩
    unfold updF
    by_cases e : k = i
    · rw [e, zput_at, if_pos rfl]
    · rw [zput_off e, if_neg e]; exact hel k k0 k1
  · skip
    refine r_if_ne0 rfl ?_
    refine r_bipush rfl ?_
    refine r_iret rfl ?_
    rw [if_neg (by omega), if_neg (by omega)] at hQ; exact hQ zL (fun _ _ => rfl) hr0
theorem y_forge2 {X : PX} {d : Nat} {S : SS} {zI zL : ZM} {Q : PQ} (hS : Sk S) {rn i v : Int} {r : Int → Int} (hr : MRw zI zL rn r) (hn : 0 ≤ rn ∧ rn ≤ 10000) (hi : inI i) (hQ : ∀ z2, (∀ c, c ≠ 214 → z2 c = zL c) → MRw zI z2 rn (nFog rn r i v) → Q (some (pI (sFog rn i))) S zI z2) : wpM X (d + 2) fM_forge [pR 184, pI i, pL v] S zI zL Q := by
  unfold sFog nFog at hQ
  refine y_forge hS hr hn hi (fun q1 q2 z2 f1 f2 => ?_) (fun q => ?_)
  · rw [if_pos ⟨q1, q2⟩, if_pos ⟨q1, q2⟩] at hQ; exact hQ z2 f1 f2
  · rw [if_neg q, if_neg q] at hQ; exact hQ zL (fun _ _ => rfl) hr
theorem c_trace {X : PX} {d : Nat} {S : SS} {zI zL : ZM} {Q : PQ} (hS : Sk S) {t : List Int} {i : Int} (hT : TrH zI 24 25 1 t) (hl : t.length ≤ 40) (hi : inI i) (hQ : Q (some (pI (sTra t i))) S zI zL) : wpM X (d + 2) fC_trace [pR 0, pI i] S zI zL Q := by
  obtain ⟨e1, hel⟩ := hT
  unfold sTra at hQ
  refine wp_in (C := c_C_trace) (ls := [some (pR 0), some (pI i)]) rfl rfl rfl rfl rfl ?_
  refine r_iload_n rfl rfl ?_
  refine r_iconst rfl ?_
  refine r_aload_n rfl rfl ?_
  refine r_getR rfl (so0 hS) (sr0_9 hS) ?_
  refine r_getI rfl (so24 hS) ?_
  rw [e1]
  refine r_bipush rfl ?_
  refine r_cS2 rfl (by decide) (Nat.le_of_ble_eq_true rfl) rfl rfl (w_min (d := d) (by unfold inI; omega) (by unfold inI; omega) ?_)
  refine r_iconst rfl ?_
  refine r_isub rfl ?_
  refine r_cS3 rfl (by decide) (Nat.le_of_ble_eq_true rfl) rfl rfl (c_within (d := d) hi (by unfold inI; omega) (by unfold inI; omega) (fun i0 i1 => ?_) (fun p0 => ?_))
  · skip
    refine r_if_eq1 rfl ?_
    refine r_aload_n rfl rfl ?_
    refine r_getR rfl (so0 hS) (sr0_9 hS) ?_
    refine r_getR rfl (so24 hS) (sr24_0 hS) ?_
    refine r_iload_n rfl rfl ?_
    refine r_iald rfl (sw25 hS) (by omega) (by omega) ?_
    refine r_goto rfl ?_
    refine r_iret rfl ?_
    have hx := hel i.toNat (by omega)
    rw [show ((i.toNat : Nat) : Int) = i by omega] at hx
    rw [if_pos ⟨i0, by omega⟩] at hQ
    rw [hx]; exact hQ
  · skip
    refine r_if_eq0 rfl ?_
    refine r_iconst rfl ?_
    refine r_iret rfl ?_
    rw [if_neg (by omega)] at hQ; exact hQ
theorem c_count {X : PX} {d : Nat} {S : SS} {zI zL : ZM} {Q : PQ} (hS : Sk S) {a : FA} (hA : CF S zI zL a) (hk : FOK a) {rn u : Int} {t : List Int} (hrn : zI 0 11 = rn) (hT : zI 24 1 = (t.length : Int)) (hu : inI u) (hQ : Q (some (pI (sCnt a rn t u))) S zI zL) : wpM X (d + 1) fC_count [pR 0, pI u] S zI zL Q := by
  obtain ⟨⟨cF0, cF14, cF75⟩, cFf⟩ := hA
  have k10 := hk.1.2
  have k00' := hk.1.1
  unfold sCnt at hQ
  refine wp_in (C := c_C_count) (ls := [some (pR 0), some (pI u)]) rfl rfl rfl rfl rfl ?_
  refine r_iload_n rfl rfl ?_
  by_cases u0 : u = 0
  · subst u0
    refine r_tsw rfl hu rfl ?_
    refine r_aload_n rfl rfl ?_
    refine r_getI rfl (so0 hS) ?_
    rw [cF0]
    refine r_iret rfl ?_
    exact hQ
  by_cases u1 : u = 1
  · subst u1
    refine r_tsw rfl hu rfl ?_
    refine r_aload_n rfl rfl ?_
    refine r_getI rfl (so0 hS) ?_
    rw [hrn]
    refine r_iret rfl ?_
    exact hQ
  by_cases u2 : u = 2
  · subst u2
    refine r_tsw rfl hu rfl ?_
    refine r_aload_n rfl rfl ?_
    refine r_getR rfl (so0 hS) (sr0_9 hS) ?_
    refine r_getI rfl (so24 hS) ?_
    rw [hT]
    refine r_iret rfl ?_
    exact hQ
  refine r_tsw (t := 12) rfl hu ?_ ?_
  · unfold psw
    have e : (u < 0 ∨ 2 < u) := by omega
    exact if_pos e
  refine r_bipush rfl ?_
  refine r_iret rfl ?_
  rw [if_neg (by omega), if_neg (by omega), if_neg (by omega)] at hQ; exact hQ
