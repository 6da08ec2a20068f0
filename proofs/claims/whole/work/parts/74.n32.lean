/-! THE REFERENCE: smoothness -/
def eFo (L : List EE) (e : Int) : Int := (L.getD e.toNat (0, 0, 0, 0)).1
def eLa (L : List EE) (e : Int) : Int := (L.getD e.toNat (0, 0, 0, 0)).2.1
def eFi (L : List EE) (e : Int) : Int := (L.getD e.toNat (0, 0, 0, 0)).2.2.1
def eLs (L : List EE) (e : Int) : Int := (L.getD e.toNat (0, 0, 0, 0)).2.2.2
theorem eFo_at {L : List EE} {k : Nat} {g : EE} (h : L[k]? = some g) : eFo L (k : Int) = g.1 ∧ eLa L (k : Int) = g.2.1 ∧ eFi L (k : Int) = g.2.2.1 ∧ eLs L (k : Int) = g.2.2.2 := by
  unfold eFo eLa eFi eLs
  rw [Int.toNat_natCast, List.getD_eq_getElem?_getD, h]
  exact ⟨rfl, rfl, rfl, rfl⟩
theorem smoS_i {n : Int} {I J V : Int → Int} {ne : Int} {fo la : Int → Int} {m : Int} {X XD Y YD : Int → Int} : smoS n I J V ne fo la m X XD Y YD = 0 ∨ smoS n I J V ne fo la m X XD Y YD = 1 := by unfold smoS; split; exact Or.inr rfl; exact Or.inl rfl
/-- the rings at the corners are as the chains say -/
def pcOK (n : Int) (I J V : Int → Int) (s : KS) : Prop := ∀ k, 0 ≤ k → k < s.1 → ringOK (selS (fun t => decide (wv (I t) (J t) (V t) (s.2.1 k) (s.2.2.1 k) (s.2.2.2.1 k) (s.2.2.2.2.1 k) = leastS n I J V (s.2.1 k) (s.2.2.1 k) (s.2.2.2.1 k) (s.2.2.2.2.1 k))) n I J).1 (selS (fun t => decide (wv (I t) (J t) (V t) (s.2.1 k) (s.2.2.1 k) (s.2.2.2.1 k) (s.2.2.2.2.1 k) = leastS n I J V (s.2.1 k) (s.2.2.1 k) (s.2.2.2.1 k) (s.2.2.2.2.1 k))) n I J).2.1 (selS (fun t => decide (wv (I t) (J t) (V t) (s.2.1 k) (s.2.2.1 k) (s.2.2.2.1 k) (s.2.2.2.2.1 k) = leastS n I J V (s.2.1 k) (s.2.2.1 k) (s.2.2.2.1 k) (s.2.2.2.2.1 k))) n I J).2.2 (areaC n I J V (s.2.1 k) (s.2.2.1 k) (s.2.2.2.1 k) (s.2.2.2.2.1 k))
set_option maxHeartbeats 4000000 in
theorem x_isSmooth {X : PX} {d : Nat} {S : SS} {zI zL : ZM} {Q : PQ} (hS : Sk S) {f n : Int} {I J V : Int → Int} (hf : 0 ≤ f ∧ f ≤ 10) (hT : FM zI f n I J V) (hR : FR n I J V) {L : List EE} {s : KS} (hok : ∀ e ∈ L, edOK n I J V e) (hE : EH zI zL f I J V L) (hcap : L.length ≤ 700) (hC : CrH zI zL s) (hCR : CrR s) (hcm : s.1 ≤ 1400) (hpos : 0 < s.1 → 0 < n) (hrg : pcOK n I J V s) (hQ : ∀ z z2, frR z zI → (∀ c, c ≠ 184 → z2 c = zL c) → Q (some (pI (smoS n I J V (L.length : Int) (eFo L) (eLa L) s.1 s.2.1 s.2.2.1 s.2.2.2.1 s.2.2.2.2.1))) S z z2) : wpM X (d + 4) fM_isSmooth [pR 184, pI f] S zI zL Q := by
  obtain ⟨e18, hed⟩ := hE
  obtain ⟨e33, hcr⟩ := hC
  have hm0 : 0 ≤ s.1 := hCR.1
  have loop2 : ∀ k : Int, k ≤ s.1 → 0 ≤ k → ∀ (o : Int) (z z2 : ZM), frR z zI → (∀ c, c ≠ 184 → z2 c = zL c) → ((o = 1 ∧ srch (fun e => decide (wgt I J (eFo L) (eLa L) e ≠ 1)) (L.length : Int).toNat 0 = -1 ∧ srch (fun k => decide (areaC n I J V (s.2.1 k) (s.2.2.1 k) (s.2.2.2.1 k) (s.2.2.2.2.1 k) ≠ 1)) (s.1 - k).toNat k = srch (fun k => decide (areaC n I J V (s.2.1 k) (s.2.2.1 k) (s.2.2.2.1 k) (s.2.2.2.2.1 k) ≠ 1)) s.1.toNat 0) ∨ (o = 0 ∧ ¬ (srch (fun e => decide (wgt I J (eFo L) (eLa L) e ≠ 1)) (L.length : Int).toNat 0 = -1 ∧ srch (fun k => decide (areaC n I J V (s.2.1 k) (s.2.2.1 k) (s.2.2.2.1 k) (s.2.2.2.2.1 k) ≠ 1)) s.1.toNat 0 = -1))) → Run X (d + 3) c_M_isSmooth 24 [some (pR 184), some (pI f), some (pI o), some (pI k)] [] S z z2 0 0 Q := by
    refine loop_up _ s.1 (fun k hk ih k0 o z z2 hz hz2 hs => ?_)
    have hab : -20000 ≤ areaC n I J V (s.2.1 k) (s.2.2.1 k) (s.2.2.2.1 k) (s.2.2.2.2.1 k) ∧ areaC n I J V (s.2.1 k) (s.2.2.1 k) (s.2.2.2.1 k) (s.2.2.2.2.1 k) ≤ 20000 := areaS_b hR
    have z33 : z 184 33 = s.1 := (hz.2 33 (by decide)).trans e33
    refine r_iload_n rfl rfl ?_
    refine r_aload_n rfl rfl ?_
    refine r_getI rfl (so184 hS) ?_
    rw [z33]
    refine r_icmp_ge rfl (by unfold inI; omega) (by unfold inI; omega) (fun h27 => ?_) (fun h27 => ?_)
    · skip
      refine r_iload_n rfl rfl ?_
      refine r_zret rfl (by rcases hs with q | q; exact Or.inr q.1; exact Or.inl q.1) ?_
      have e0 : o = smoS n I J V (L.length : Int) (eFo L) (eLa L) s.1 s.2.1 s.2.2.1 s.2.2.2.1 s.2.2.2.2.1 := by
        unfold smoS
        rcases hs with q | q
        · rw [srch_end (by omega)] at q
          rw [if_pos ⟨q.2.1, q.2.2.symm⟩]; exact q.1
        · rw [if_neg q.2]; exact q.1
      rw [e0]
      exact hQ z z2 hz hz2
    · skip
      refine r_iload_n rfl rfl ?_
      refine r_if_eq rfl (by unfold inI; omega) (fun h29 => ?_) (fun h29 => ?_)
      · skip
        refine r_iconst rfl ?_
        refine r_istore_n rfl (Nat.le_of_ble_eq_true rfl) ?_
        refine r_iinc rfl rfl ?_
        refine r_goto rfl ?_
        refine ih (by omega) (by omega) _ z z2 hz hz2 (Or.inr ⟨rfl, ?_⟩)
        rcases hs with q | q
        · omega
        · exact q.2
      · skip
        refine r_aload_n rfl rfl ?_
        refine r_iload_n rfl rfl ?_
        refine r_iload_n rfl rfl ?_
        refine r_cV3 rfl (so184 hS) (Nat.le_of_ble_eq_true rfl) rfl rfl (x_partArea hS hf (FM_frR hT hz) hR (c := k) (x := s.2.1 k) (xd := s.2.2.1 k) (y := s.2.2.2.1 k) (yd := s.2.2.2.2.1 k) ⟨k0, by omega⟩ (by rw [hz2 204 (by decide)]; exact (hcr k k0 (by omega)).1) (hCR.2 k k0 (by omega)) (hpos (by omega)) (hrg k k0 (by omega)) (fun z3 hz3 => ?_))
        refine r_iconst rfl ?_
        refine r_icmp_ne rfl (by show inI (areaC n I J V (s.2.1 k) (s.2.2.1 k) (s.2.2.2.1 k) (s.2.2.2.2.1 k)); unfold inI; omega) (by unfold inI; omega) (fun h35 => ?_) (fun h35 => ?_)
        · skip
          refine r_iconst rfl ?_
          refine r_istore_n rfl (Nat.le_of_ble_eq_true rfl) ?_
          refine r_iinc rfl rfl ?_
          refine r_goto rfl ?_
          refine ih (by omega) (by omega) _ _ _ (frR_t hz hz3) (fun c hc => by rw [stM_row hc]; exact hz2 c hc) (Or.inr ⟨rfl, ?_⟩)
          rcases hs with q | q
          · rw [srch_hit (by omega) (by simp only [decide_eq_true_eq]; exact h35)] at q
            intro q2
            omega
          · exact q.2
        · skip
          refine r_iconst rfl ?_
          refine r_goto rfl ?_
          refine r_istore_n rfl (Nat.le_of_ble_eq_true rfl) ?_
          refine r_iinc rfl rfl ?_
          refine r_goto rfl ?_
          refine ih (by omega) (by omega) _ _ _ (frR_t hz hz3) (fun c hc => by rw [stM_row hc]; exact hz2 c hc) ?_
          rcases hs with q | q
          · rw [srch_miss (by omega) (by simp only [decide_eq_false_iff_not]; exact fun q2 => q2 h35)] at q
            exact Or.inl ⟨rfl, q.2⟩
          · omega
  have loop1 : ∀ e : Int, e ≤ (L.length : Int) → 0 ≤ e → ∀ (o : Int), ((o = 1 ∧ srch (fun e => decide (wgt I J (eFo L) (eLa L) e ≠ 1)) ((L.length : Int) - e).toNat e = srch (fun e => decide (wgt I J (eFo L) (eLa L) e ≠ 1)) (L.length : Int).toNat 0) ∨ (o = 0 ∧ srch (fun e => decide (wgt I J (eFo L) (eLa L) e ≠ 1)) (L.length : Int).toNat 0 ≠ -1)) → Run X (d + 3) c_M_isSmooth 4 [some (pR 184), some (pI f), some (pI o), some (pI e)] [] S zI zL 0 0 Q := by
    refine loop_up _ (L.length : Int) (fun e he ih e0 o hs => ?_)
    refine r_iload_n rfl rfl ?_
    refine r_aload_n rfl rfl ?_
    refine r_getI rfl (so184 hS) ?_
    rw [e18]
    refine r_icmp_ge rfl (by unfold inI; omega) (by unfold inI; omega) (fun h7 => ?_) (fun h7 => ?_)
    · skip
      refine r_iconst rfl ?_
      refine r_istore_n rfl (Nat.le_of_ble_eq_true rfl) ?_
      refine loop2 0 hm0 (Int.le_refl _) o zI zL (frR_r _) (fun _ _ => rfl) ?_
      rcases hs with q | q
      · rw [srch_end (by omega)] at q
        exact Or.inl ⟨q.1, q.2.symm, by rw [Int.sub_zero]⟩
      · exact Or.inr ⟨q.1, fun q2 => q.2 q2.1⟩
    · skip
      refine r_iload_n rfl rfl ?_
      refine r_if_eq rfl (by unfold inI; omega) (fun h9 => ?_) (fun h9 => ?_)
      · skip
        refine r_iconst rfl ?_
        refine r_istore_n rfl (Nat.le_of_ble_eq_true rfl) ?_
        refine r_iinc rfl rfl ?_
        refine r_goto rfl ?_
        refine ih (by omega) (by omega) _ (Or.inr ⟨rfl, ?_⟩)
        rcases hs with q | q
        · omega
        · exact q.2
      · skip
        have hlt : e.toNat < L.length := by omega
        obtain ⟨g, hge⟩ : ∃ g, L[e.toNat]? = some g := ⟨_, List.getElem?_eq_getElem hlt⟩
        have hg := (hed e.toNat g hge).1.2.2.2.2.1
        have hgm := hok g (List.mem_of_getElem? hge)
        have hfo := eFo_at hge
        rw [show ((e.toNat : Nat) : Int) = e by omega] at hg hfo
        have hw : wgt I J (eFo L) (eLa L) e = gc (I g.2.1 - I g.1) (J g.2.1 - J g.1) := by unfold wgt; rw [hfo.1, hfo.2.1]
        obtain ⟨d1, d2, d3⟩ := dif_b hR ⟨hgm.1, show g.1 < n by have h1 := hgm.2.1; have h2 := hgm.2.2.1; omega⟩ ⟨show 0 ≤ g.2.1 by have h1 := hgm.1; have h2 := hgm.2.1; omega, hgm.2.2.1⟩
        have gb := gc_b (a := I g.2.1 - I g.1) (b := J g.2.1 - J g.1) (B := 8) d1 d2 (by decide)
        refine r_aload_n rfl rfl ?_
        refine r_getR rfl (so184 hS) (sr184_23 hS) ?_
        refine r_iload_n rfl rfl ?_
        refine r_iald rfl (sw200 hS) (by omega) (by omega) ?_
        rw [hg]
        refine r_iconst rfl ?_
        refine r_icmp_ne rfl (by unfold inI; omega) (by unfold inI; omega) (fun h15 => ?_) (fun h15 => ?_)
        · skip
          refine r_iconst rfl ?_
          refine r_istore_n rfl (Nat.le_of_ble_eq_true rfl) ?_
          refine r_iinc rfl rfl ?_
          refine r_goto rfl ?_
          refine ih (by omega) (by omega) _ (Or.inr ⟨rfl, ?_⟩)
          rcases hs with q | q
          · rw [srch_hit (by omega) (by simp only [decide_eq_true_eq]; rw [hw]; exact h15)] at q
            omega
          · exact q.2
        · skip
          refine r_iconst rfl ?_
          refine r_goto rfl ?_
          refine r_istore_n rfl (Nat.le_of_ble_eq_true rfl) ?_
          refine r_iinc rfl rfl ?_
          refine r_goto rfl ?_
          refine ih (by omega) (by omega) _ ?_
          rcases hs with q | q
          · rw [srch_miss (by omega) (by simp only [decide_eq_false_iff_not]; rw [hw]; exact fun q2 => q2 h15)] at q
            exact Or.inl ⟨rfl, q.2⟩
          · omega
  refine wp_in (C := c_M_isSmooth) (ls := [some (pR 184), some (pI f), none, none]) rfl rfl rfl rfl rfl ?_
  refine r_iconst rfl ?_
  refine r_istore_n rfl (Nat.le_of_ble_eq_true rfl) ?_
  refine r_iconst rfl ?_
  refine r_istore_n rfl (Nat.le_of_ble_eq_true rfl) ?_
  exact loop1 0 (by omega) (Int.le_refl _) 1 (Or.inl ⟨rfl, by rw [Int.sub_zero]⟩)
