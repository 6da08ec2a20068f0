/-! THE REFERENCE: idle terms, forms within -/
set_option maxHeartbeats 4000000 in
theorem x_isIdle {X : PX} {d : Nat} {S : SS} {zI zL : ZM} {Q : PQ} (hS : Sk S) {f n : Int} {I J V : Int → Int} (hf : 0 ≤ f ∧ f ≤ 10) (hT : FM zI f n I J V) (hR : FR n I J V) {t : Int} (ht : 0 ≤ t ∧ t < n) {id : Int → Int} (hid : idOK n I J V id) (hQ : Q (some (pI (id t))) S zI zL) : wpM X (d + 3) fM_isIdle [pR 184, pI f, pI t] S zI zL Q := by
  have hT0 := hT
  have hR0 := hR
  obtain ⟨e4, hel⟩ := hT
  obtain ⟨hn0, hn40, hrg⟩ := hR
  obtain ⟨idi, hidm⟩ := hid t ht.1 ht.2
  have r1 : idM n I J V t → Q (some (pI 1)) S zI zL := fun q => by rw [← hidm.mpr q]; exact hQ
  have r0 : ¬ idM n I J V t → Q (some (pI 0)) S zI zL := fun q => by
    have e : id t = 0 := by rcases idi with k | k; exact k; exact absurd (hidm.mp k) q
    rw [← e]; exact hQ
  clear hidm idi hid hQ
  have outer : ∀ a : Int, a ≤ n → 0 ≤ a → ∀ (ua : Int) (y7 y8 : Option PV), ua = 40 * f + a → (∀ a' b', 0 ≤ a' → a' < a → a' < b' → b' < n → ¬ idB n I J V t a' b') → Run X (d + 2) c_M_isIdle 17 [some (pR 184), some (pI f), some (pI t), some (pI (40 * f)), some (pI (40 * f + n)), some (pI (40 * f + t)), some (pI ua), y7, y8] [] S zI zL 0 0 Q := by
    refine loop_up _ n (fun a hka ih a0 ua y7 y8 hua hno => ?_)
    have inner : a < n → ∀ b : Int, b ≤ n → a + 1 ≤ b → ∀ (ub : Int) (y8 : Option PV), ub = 40 * f + b → (∀ b', a < b' → b' < b → ¬ idB n I J V t a b') → Run X (d + 2) c_M_isIdle 24 [some (pR 184), some (pI f), some (pI t), some (pI (40 * f)), some (pI (40 * f + n)), some (pI (40 * f + t)), some (pI ua), some (pI ub), y8] [] S zI zL 0 0 Q := by
      intro han
      refine loop_from _ n (a + 1) (fun b hkb ihb b0 ub y8 hub hnb => ?_)
      have nxb : b < n → ¬ idB n I J V t a b → ∀ y8, Run X (d + 2) c_M_isIdle 63 [some (pR 184), some (pI f), some (pI t), some (pI (40 * f)), some (pI (40 * f + n)), some (pI (40 * f + t)), some (pI ua), some (pI ub), y8] [] S zI zL 0 0 Q := by
        intro hbn hnid y8
        refine r_iinc rfl rfl ?_
        refine r_goto rfl ?_
        refine ihb hbn (by omega) _ _ (by omega) (fun b' q1 q2 => ?_)
        by_cases e : b' = b
        · rw [e]; exact hnid
        · exact hnb b' q1 (by omega)
      have cl : b < n → a ≠ t → b ≠ t → ¬ un2 I J V t a b → ∀ c : Int, c ≤ n → b + 1 ≤ c → ∀ uc : Int, uc = 40 * f + c → (∀ c', b < c' → c' < c → c' ≠ t → ¬ un3 I J V t a b c') → Run X (d + 2) c_M_isIdle 46 [some (pR 184), some (pI f), some (pI t), some (pI (40 * f)), some (pI (40 * f + n)), some (pI (40 * f + t)), some (pI ua), some (pI ub), some (pI uc)] [] S zI zL 0 0 Q := by
        intro hbn hat hbt hn2
        refine loop_from _ n (b + 1) (fun c hkc ihc c0 uc huc hnc => ?_)
        have ihc2 := fun (hcn : c < n) (hnid : c ≠ t → ¬ un3 I J V t a b c) => ihc hcn (by omega) (uc + 1) (by omega) (fun c' q1 q2 q3 => by
          by_cases e : c' = c
          · rw [e] at q3 ⊢; exact hnid q3
          · exact hnc c' q1 (by omega) q3)
        refine r_iload rfl rfl ?_
        refine r_iload rfl rfl ?_
        refine r_icmp_ge rfl (by unfold inI; omega) (by unfold inI; omega) (fun h48 => ?_) (fun h48 => ?_)
        · skip
          refine nxb hbn (fun q => ?_) _
          rcases q.2.2 with k | ⟨c', k1, k2, k3, k4⟩
          · exact hn2 k
          · exact hnc c' k1 (by omega) k3 k4
        · skip
          refine r_iload rfl rfl ?_
          refine r_iload rfl rfl ?_
          refine r_icmp_eq rfl (by unfold inI; omega) (by unfold inI; omega) (fun h51 => ?_) (fun h51 => ?_)
          · skip
            refine r_iinc rfl rfl ?_
            refine r_goto rfl ?_
            exact ihc2 (by omega) (fun q => absurd (show c = t by omega) q)
          · skip
            refine r_aload_n rfl rfl ?_
            refine r_iload rfl rfl ?_
            refine r_iload rfl rfl ?_
            refine r_iload rfl rfl ?_
            refine r_iload rfl rfl ?_
            refine r_cV5 rfl (so184 hS) (Nat.le_of_ble_eq_true rfl) rfl rfl (x_under3 hS hf hT0 hR0 ht rfl ⟨a0, by omega⟩ hua ⟨by omega, hbn⟩ hub ⟨by omega, by omega⟩ huc (fun hu1 => ?_) (fun hu0 => ?_))
            · skip
              refine r_if_eq1 rfl ?_
              refine r_iconst rfl ?_
              refine r_zret rfl (by first | exact Or.inl rfl | exact Or.inr rfl | assumption) ?_
              exact r1 ⟨a, b, a0, by omega, hbn, hat, hbt, Or.inr ⟨c, by omega, by omega, by omega, hu1⟩⟩
            · skip
              refine r_if_eq0 rfl ?_
              refine r_iinc rfl rfl ?_
              refine r_goto rfl ?_
              exact ihc2 (by omega) (fun _ => hu0)
      refine r_iload rfl rfl ?_
      refine r_iload rfl rfl ?_
      refine r_icmp_ge rfl (by unfold inI; omega) (by unfold inI; omega) (fun h26 => ?_) (fun h26 => ?_)
      · skip
        refine r_iinc rfl rfl ?_
        refine r_goto rfl ?_
        refine ih han (by omega) _ _ _ (by omega) (fun a' b' q0 q1 q2 q3 => ?_)
        by_cases e : a' = a
        · rw [e] at q2 ⊢; exact hnb b' q2 (by omega)
        · exact hno a' b' q0 (by omega) q2 q3
      · skip
        refine r_iload rfl rfl ?_
        refine r_iload rfl rfl ?_
        refine r_icmp_eq rfl (by unfold inI; omega) (by unfold inI; omega) (fun h29 => ?_) (fun h29 => ?_)
        · skip
          refine r_iinc rfl rfl ?_
          refine r_goto rfl ?_
          refine ih han (by omega) _ _ _ (by omega) (fun a' b' q0 q1 q2 q3 => ?_)
          by_cases e : a' = a
          · intro q; exact q.1 (by omega)
          · exact hno a' b' q0 (by omega) q2 q3
        · skip
          refine r_iload rfl rfl ?_
          refine r_iload rfl rfl ?_
          refine r_icmp_ne rfl (by unfold inI; omega) (by unfold inI; omega) (fun h32 => ?_) (fun h32 => ?_)
          · skip
            refine r_aload_n rfl rfl ?_
            refine r_iload rfl rfl ?_
            refine r_iload rfl rfl ?_
            refine r_iload rfl rfl ?_
            refine r_cV4 rfl (so184 hS) (Nat.le_of_ble_eq_true rfl) rfl rfl (x_under2 hS hf hT0 hR0 ht rfl ⟨a0, han⟩ hua ⟨by omega, by omega⟩ hub (fun hu1 => ?_) (fun hu0 => ?_))
            · skip
              refine r_if_eq1 rfl ?_
              refine r_iconst rfl ?_
              refine r_zret rfl (by first | exact Or.inl rfl | exact Or.inr rfl | assumption) ?_
              exact r1 ⟨a, b, a0, by omega, by omega, by omega, by omega, Or.inl hu1⟩
            · skip
              refine r_if_eq0 rfl ?_
              refine r_iload rfl rfl ?_
              refine r_iconst rfl ?_
              refine r_iadd rfl ?_
              refine r_istore rfl (Nat.le_of_ble_eq_true rfl) ?_
              exact cl (by omega) (by omega) (by omega) hu0 (b + 1) (by omega) (Int.le_refl _) _ (by omega) (fun c' q1 q2 => by omega)
          · skip
            refine r_goto rfl ?_
            exact nxb (by omega) (fun q => q.2.1 (by omega)) _
    refine r_iload rfl rfl ?_
    refine r_iload rfl rfl ?_
    refine r_icmp_ge rfl (by unfold inI; omega) (by unfold inI; omega) (fun h19 => ?_) (fun h19 => ?_)
    · skip
      refine r_iconst rfl ?_
      refine r_zret rfl (by first | exact Or.inl rfl | exact Or.inr rfl | assumption) ?_
      refine r0 (fun q => ?_)
      obtain ⟨a', b', q0, q1, q2, q3⟩ := q
      exact hno a' b' q0 (by omega) q1 q2 q3
    · skip
      refine r_iload rfl rfl ?_
      refine r_iconst rfl ?_
      refine r_iadd rfl ?_
      refine r_istore rfl (Nat.le_of_ble_eq_true rfl) ?_
      exact inner (by omega) (a + 1) (by omega) (Int.le_refl _) _ _ (by omega) (fun b' q1 q2 => by omega)
  refine wp_in (C := c_M_isIdle) (ls := [some (pR 184), some (pI f), some (pI t), none, none, none, none, none, none]) rfl rfl rfl rfl rfl ?_
  refine r_bipush rfl ?_
  refine r_iload_n rfl rfl ?_
  refine r_imul rfl ?_
  refine r_istore_n rfl (Nat.le_of_ble_eq_true rfl) ?_
  refine r_iload_n rfl rfl ?_
  refine r_aload_n rfl rfl ?_
  refine r_getR rfl (so184 hS) (sr184_2 hS) ?_
  refine r_iload_n rfl rfl ?_
  refine r_iald rfl (sw186 hS) (by omega) (by omega) ?_
  rw [e4]
  refine r_iadd rfl ?_
  refine r_istore rfl (Nat.le_of_ble_eq_true rfl) ?_
  refine r_iload_n rfl rfl ?_
  refine r_iload_n rfl rfl ?_
  refine r_iadd rfl ?_
  refine r_istore rfl (Nat.le_of_ble_eq_true rfl) ?_
  refine r_iload_n rfl rfl ?_
  refine r_istore rfl (Nat.le_of_ble_eq_true rfl) ?_
  exact outer 0 hn0 (Int.le_refl _) _ none none (by omega) (fun a' b' q0 q1 => by omega)
theorem x_idles {X : PX} {d : Nat} {S : SS} {zI zL : ZM} {Q : PQ} (hS : Sk S) {f n : Int} {I J V : Int → Int} (hf : 0 ≤ f ∧ f ≤ 10) (hT : FM zI f n I J V) (hR : FR n I J V) {id : Int → Int} (hid : idOK n I J V id) (hQ : Q (some (pI (cnt (fun t => decide (id t ≠ 0)) n.toNat 0))) S zI zL) : wpM X (d + 4) fM_idles [pR 184, pI f] S zI zL Q := by
  have hT0 := hT
  have hR0 := hR
  obtain ⟨e4, hel⟩ := hT
  obtain ⟨hn0, hn40, hrg⟩ := hR
  have key : ∀ k : Int, k ≤ n → 0 ≤ k → ∀ c : Int, 0 ≤ c → c ≤ k → c + cnt (fun t => decide (id t ≠ 0)) (n - k).toNat k = cnt (fun t => decide (id t ≠ 0)) n.toNat 0 → Run X (d + 3) c_M_idles 4 [some (pR 184), some (pI f), some (pI c), some (pI k)] [] S zI zL 0 0 Q := by
    refine loop_up _ n (fun k hk ih h0 c hc0 hck hs => ?_)
    refine r_iload_n rfl rfl ?_
    refine r_aload_n rfl rfl ?_
    refine r_getR rfl (so184 hS) (sr184_2 hS) ?_
    refine r_iload_n rfl rfl ?_
    refine r_iald rfl (sw186 hS) (by omega) (by omega) ?_
    rw [e4]
    refine r_icmp_ge rfl (by unfold inI; omega) (by unfold inI; omega) (fun h9 => ?_) (fun h9 => ?_)
    · skip
      refine r_iload_n rfl rfl ?_
      refine r_iret rfl ?_
      rw [cnt_e (by omega), Int.add_zero] at hs; rw [hs]; exact hQ
    · skip
      have idk := (hid k h0 (by omega)).1
      refine r_iload_n rfl rfl ?_
      refine r_aload_n rfl rfl ?_
      refine r_iload_n rfl rfl ?_
      refine r_iload_n rfl rfl ?_
      refine r_cV3 rfl (so184 hS) (Nat.le_of_ble_eq_true rfl) rfl rfl (x_isIdle hS hf hT0 hR0 ⟨h0, by omega⟩ hid ?_)
      refine r_if_eq rfl (by unfold inI; omega) (fun h15 => ?_) (fun h15 => ?_)
      · skip
        refine r_iconst rfl ?_
        refine r_iadd rfl ?_
        refine r_istore_n rfl (Nat.le_of_ble_eq_true rfl) ?_
        refine r_iinc rfl rfl ?_
        refine r_goto rfl ?_
        exact ih (by omega) (by omega) _ (by omega) (by omega) (by rw [cnt_s (by omega), if_neg (by simp only [decide_eq_true_eq]; omega)] at hs; omega)
      · skip
        refine r_iconst rfl ?_
        refine r_goto rfl ?_
        refine r_iadd rfl ?_
        refine r_istore_n rfl (Nat.le_of_ble_eq_true rfl) ?_
        refine r_iinc rfl rfl ?_
        refine r_goto rfl ?_
        exact ih (by omega) (by omega) _ (by omega) (by omega) (by rw [cnt_s (by omega), if_pos (by simp only [decide_eq_true_eq]; omega)] at hs; omega)
  refine wp_in (C := c_M_idles) (ls := [some (pR 184), some (pI f), none, none]) rfl rfl rfl rfl rfl ?_
  refine r_iconst rfl ?_
  refine r_istore_n rfl (Nat.le_of_ble_eq_true rfl) ?_
  refine r_iconst rfl ?_
  refine r_istore_n rfl (Nat.le_of_ble_eq_true rfl) ?_
  exact key 0 hn0 (Int.le_refl _) 0 (Int.le_refl _) (Int.le_refl _) (by rw [Int.sub_zero, Int.zero_add])
abbrev wiB (I J V : Int → Int) (id : Int → Int) (n2 : Int) (I2 J2 V2 : Int → Int) (id2 : Int → Int) (t : Int) : Prop := id t = 0 ∧ ¬ (fnd n2 I2 J2 (I t) (J t) ≠ -1 ∧ V2 (fnd n2 I2 J2 (I t) (J t)) = V t ∧ id2 (fnd n2 I2 J2 (I t) (J t)) = 0)
def wiS (n : Int) (I J V : Int → Int) (id : Int → Int) (n2 : Int) (I2 J2 V2 : Int → Int) (id2 : Int → Int) : Int := if srch (fun t => decide (wiB I J V id n2 I2 J2 V2 id2 t)) n.toNat 0 = -1 then 1 else 0
set_option maxHeartbeats 4000000 in
theorem x_isWithin {X : PX} {d : Nat} {S : SS} {zI zL : ZM} {Q : PQ} (hS : Sk S) {f n : Int} {I J V : Int → Int} (hf : 0 ≤ f ∧ f ≤ 10) (hT : FM zI f n I J V) (hR : FR n I J V) {f2 n2 : Int} {I2 J2 V2 : Int → Int} (hf2 : 0 ≤ f2 ∧ f2 ≤ 10) (hT2 : FM zI f2 n2 I2 J2 V2) (hR2 : FR n2 I2 J2 V2) {id id2 : Int → Int} (hid : idOK n I J V id) (hid2 : idOK n2 I2 J2 V2 id2) (hQ : Q (some (pI (wiS n I J V id n2 I2 J2 V2 id2))) S zI zL) : wpM X (d + 4) fM_isWithin [pR 184, pI f, pI f2] S zI zL Q := by
  have hT0 := hT
  have hR0 := hR
  obtain ⟨e4, hel⟩ := hT
  obtain ⟨hn0, hn40, hrg⟩ := hR
  have e2 := hT2.1
  have n20 := hR2.1
  have n240 := hR2.2.1
  obtain ⟨W, hW⟩ : ∃ W : Int → Bool, W = fun t => decide (wiB I J V id n2 I2 J2 V2 id2 t) := ⟨_, rfl⟩
  unfold wiS at hQ
  rw [← hW] at hQ
  have key : ∀ k : Int, k ≤ n → 0 ≤ k → ∀ y5 : Option PV, srch W (n - k).toNat k = srch W n.toNat 0 → Run X (d + 3) c_M_isWithin 4 [some (pR 184), some (pI f), some (pI f2), some (pI 1), some (pI k), y5] [] S zI zL 0 0 Q := by
    refine loop_up _ n (fun k hk ih h0 y5 hs => ?_)
    have miss : k < n → W k = false → ∀ y5 : Option PV, Run X (d + 3) c_M_isWithin 66 [some (pR 184), some (pI f), some (pI f2), some (pI 1), some (pI k), y5] [] S zI zL 0 0 Q := by
      intro hkn hw y5
      refine r_iinc rfl rfl ?_
      refine r_goto rfl ?_
      exact ih hkn (by omega) _ (by rw [← srch_miss hkn hw]; exact hs)
    have hit : k < n → W k = true → ∀ y5 : Option PV, Run X (d + 3) c_M_isWithin 66 [some (pR 184), some (pI f), some (pI f2), some (pI 0), some (pI k), y5] [] S zI zL 0 0 Q := by
      intro hkn hw y5
      rw [srch_hit hkn hw] at hs
      rw [← hs, if_neg (by omega)] at hQ
      have stp : Run X (d + 3) c_M_isWithin 4 [some (pR 184), some (pI f), some (pI f2), some (pI 0), some (pI (k + 1)), y5] [] S zI zL 0 0 Q := by
        refine r_iload rfl rfl ?_
        refine r_aload_n rfl rfl ?_
        refine r_getR rfl (so184 hS) (sr184_2 hS) ?_
        refine r_iload_n rfl rfl ?_
        refine r_iald rfl (sw186 hS) (by omega) (by omega) ?_
        rw [e4]
        refine r_icmp_ge rfl (by unfold inI; omega) (by unfold inI; omega) (fun h9 => ?_) (fun h9 => ?_)
        · skip
          refine r_iload_n rfl rfl ?_
          refine r_zret rfl (by first | exact Or.inl rfl | exact Or.inr rfl | assumption) ?_
          exact hQ
        · skip
          refine r_iload_n rfl rfl ?_
          refine r_if_eq rfl (by unfold inI; omega) (fun h11 => ?_) (fun h11 => ?_)
          · skip
            refine r_iload_n rfl rfl ?_
            refine r_zret rfl (by first | exact Or.inl rfl | exact Or.inr rfl | assumption) ?_
            exact hQ
          · skip
            exact absurd rfl h11
      refine r_iinc rfl rfl ?_
      refine r_goto rfl ?_
      exact stp
    refine r_iload rfl rfl ?_
    refine r_aload_n rfl rfl ?_
    refine r_getR rfl (so184 hS) (sr184_2 hS) ?_
    refine r_iload_n rfl rfl ?_
    refine r_iald rfl (sw186 hS) (by omega) (by omega) ?_
    rw [e4]
    refine r_icmp_ge rfl (by unfold inI; omega) (by unfold inI; omega) (fun h9 => ?_) (fun h9 => ?_)
    · skip
      refine r_iload_n rfl rfl ?_
      refine r_zret rfl (by first | exact Or.inl rfl | exact Or.inr rfl | assumption) ?_
      rw [srch_end (by omega)] at hs; rw [← hs, if_pos rfl] at hQ; exact hQ
    · skip
      refine r_iload_n rfl rfl ?_
      refine r_if_eq rfl (by unfold inI; omega) (fun h11 => ?_) (fun h11 => ?_)
      · skip
        exact absurd h11 (by decide)
      · skip
        have hkn : k < n := by omega
        obtain ⟨g1, g2, g3⟩ := hel k h0 hkn
        have rk := hrg k h0 hkn
        have idk := (hid k h0 hkn).1
        have fi := fnd_in n2 I2 J2 (I k) (J k) n20
        have wd : W k = decide (wiB I J V id n2 I2 J2 V2 id2 k) := by rw [hW]
        obtain ⟨at0, hat⟩ : ∃ a, a = fnd n2 I2 J2 (I k) (J k) := ⟨_, rfl⟩
        unfold wiB at wd
        rw [← hat] at fi wd
        refine r_aload_n rfl rfl ?_
        refine r_iload_n rfl rfl ?_
        refine r_iload rfl rfl ?_
        refine r_cV3 rfl (so184 hS) (Nat.le_of_ble_eq_true rfl) rfl rfl (x_isIdle hS hf hT0 hR0 ⟨h0, hkn⟩ hid ?_)
        refine r_if_eq rfl (by unfold inI; omega) (fun h16 => ?_) (fun h16 => ?_)
        · skip
          refine r_aload_n rfl rfl ?_
          refine r_iload_n rfl rfl ?_
          refine r_aload_n rfl rfl ?_
          refine r_getR rfl (so184 hS) (sr184_3 hS) ?_
          refine r_bipush rfl ?_
          refine r_iload_n rfl rfl ?_
          refine r_imul rfl ?_
          refine r_iload rfl rfl ?_
          refine r_iadd rfl ?_
          refine r_iald rfl (sw187 hS) (by omega) (by omega) ?_
          rw [g1]
          refine r_aload_n rfl rfl ?_
          refine r_getR rfl (so184 hS) (sr184_4 hS) ?_
          refine r_bipush rfl ?_
          refine r_iload_n rfl rfl ?_
          refine r_imul rfl ?_
          refine r_iload rfl rfl ?_
          refine r_iadd rfl ?_
          refine r_iald rfl (sw188 hS) (by omega) (by omega) ?_
          rw [g2]
          refine r_cV4 rfl (so184 hS) (Nat.le_of_ble_eq_true rfl) rfl rfl (x_termAt hS hf2 hT2 hR2 (by unfold inI; omega) (by unfold inI; omega) ?_)
          rw [← hat]
          refine r_istore rfl (Nat.le_of_ble_eq_true rfl) ?_
          refine r_iload rfl rfl ?_
          refine r_if_lt rfl (by unfold inI; omega) (fun h39 => ?_) (fun h39 => ?_)
          · skip
            refine r_iconst rfl ?_
            refine r_istore_n rfl (Nat.le_of_ble_eq_true rfl) ?_
            exact hit hkn (by rw [wd, decide_eq_true_eq]; exact ⟨by omega, fun q => by have := q.1; omega⟩) _
          · skip
            have hat0 : 0 ≤ at0 ∧ at0 < n2 := by omega
            obtain ⟨-, -, k3⟩ := hT2.2 at0 hat0.1 hat0.2
            have rk2 := hR2.2.2 at0 hat0.1 hat0.2
            have id2k := (hid2 at0 hat0.1 hat0.2).1
            refine r_aload_n rfl rfl ?_
            refine r_getR rfl (so184 hS) (sr184_5 hS) ?_
            refine r_bipush rfl ?_
            refine r_iload_n rfl rfl ?_
            refine r_imul rfl ?_
            refine r_iload rfl rfl ?_
            refine r_iadd rfl ?_
            refine r_iald rfl (sw189 hS) (by omega) (by omega) ?_
            rw [k3]
            refine r_aload_n rfl rfl ?_
            refine r_getR rfl (so184 hS) (sr184_5 hS) ?_
            refine r_bipush rfl ?_
            refine r_iload_n rfl rfl ?_
            refine r_imul rfl ?_
            refine r_iload rfl rfl ?_
            refine r_iadd rfl ?_
            refine r_iald rfl (sw189 hS) (by omega) (by omega) ?_
            rw [g3]
            refine r_icmp_ne rfl (by unfold inI; omega) (by unfold inI; omega) (fun h56 => ?_) (fun h56 => ?_)
            · skip
              refine r_iconst rfl ?_
              refine r_istore_n rfl (Nat.le_of_ble_eq_true rfl) ?_
              exact hit hkn (by rw [wd, decide_eq_true_eq]; exact ⟨by omega, fun q => by have := q.2.1; omega⟩) _
            · skip
              refine r_aload_n rfl rfl ?_
              refine r_iload_n rfl rfl ?_
              refine r_iload rfl rfl ?_
              refine r_cV3 rfl (so184 hS) (Nat.le_of_ble_eq_true rfl) rfl rfl (x_isIdle hS hf2 hT2 hR2 hat0 hid2 ?_)
              refine r_if_ne rfl (by unfold inI; omega) (fun h61 => ?_) (fun h61 => ?_)
              · skip
                refine r_iconst rfl ?_
                refine r_istore_n rfl (Nat.le_of_ble_eq_true rfl) ?_
                exact hit hkn (by rw [wd, decide_eq_true_eq]; exact ⟨by omega, fun q => by have := q.2.2; omega⟩) _
              · skip
                refine r_iconst rfl ?_
                refine r_goto rfl ?_
                refine r_istore_n rfl (Nat.le_of_ble_eq_true rfl) ?_
                exact miss hkn (by rw [wd, decide_eq_false_iff_not]; intro q; exact q.2 ⟨by omega, by omega, by omega⟩) _
        · skip
          refine r_goto rfl ?_
          exact miss hkn (by rw [wd, decide_eq_false_iff_not]; intro q; have := q.1; omega) _
  refine wp_in (C := c_M_isWithin) (ls := [some (pR 184), some (pI f), some (pI f2), none, none, none]) rfl rfl rfl rfl rfl ?_
  refine r_iconst rfl ?_
  refine r_istore_n rfl (Nat.le_of_ble_eq_true rfl) ?_
  refine r_iconst rfl ?_
  refine r_istore rfl (Nat.le_of_ble_eq_true rfl) ?_
  exact key 0 hn0 (Int.le_refl _) none (by rw [Int.sub_zero])
