/-! THE REFERENCE: what terms are idle, what stands within -/
def ptE (I J : Int → Int) (t a b : Int) : Int := (I b - I a) * (I t - I a) + (J b - J a) * (J t - J a)
/-- not below the way from one term to another -/
def un2 (I J V : Int → Int) (t a b : Int) : Prop := trE I J a b t = 0 ∧ 0 ≤ ptE I J t a b ∧ ptE I J t a b ≤ byE I J a b ∧ V a * (byE I J a b - ptE I J t a b) + V b * ptE I J t a b ≤ V t * byE I J a b
def sg1 (x : Int) : Int := if x < 0 then -1 else 1
/-- not below the plane of three terms about it -/
def un3 (I J V : Int → Int) (t a b c : Int) : Prop := trE I J a b c ≠ 0 ∧ 0 ≤ trE I J t b c * sg1 (trE I J a b c) ∧ 0 ≤ trE I J a t c * sg1 (trE I J a b c) ∧ 0 ≤ trE I J a b t * sg1 (trE I J a b c) ∧
  trE I J t b c * sg1 (trE I J a b c) * V a + trE I J a t c * sg1 (trE I J a b c) * V b + trE I J a b t * sg1 (trE I J a b c) * V c ≤ V t * trE I J a b c * sg1 (trE I J a b c)
def idB (n : Int) (I J V : Int → Int) (t a b : Int) : Prop := a ≠ t ∧ b ≠ t ∧ (un2 I J V t a b ∨ ∃ c, b < c ∧ c < n ∧ c ≠ t ∧ un3 I J V t a b c)
def idM (n : Int) (I J V : Int → Int) (t : Int) : Prop := ∃ a b, 0 ≤ a ∧ a < b ∧ b < n ∧ idB n I J V t a b
def idOK (n : Int) (I J V : Int → Int) (id : Int → Int) : Prop := ∀ t, 0 ≤ t → t < n → (id t = 0 ∨ id t = 1) ∧ (id t = 1 ↔ idM n I J V t)
theorem x_across {X : PX} {d : Nat} {S : SS} {zI zL : ZM} {Q : PQ} (hS : Sk S) {f n : Int} {I J V : Int → Int} (hf : 0 ≤ f ∧ f ≤ 10) (hT : FM zI f n I J V) (hR : FR n I J V) {a b c ua ub uc : Int} (ha : 0 ≤ a ∧ a < n) (hua : ua = 40 * f + a) (hb : 0 ≤ b ∧ b < n) (hub : ub = 40 * f + b) (hc : 0 ≤ c ∧ c < n) (huc : uc = 40 * f + c) (hQ : Q (some (pL (trE I J a b c))) S zI zL) : wpM X (d + 1) fM_across [pR 184, pI ua, pI ub, pI uc] S zI zL Q := by
  have hT0 := hT
  have hR0 := hR
  obtain ⟨e4, hel⟩ := hT
  obtain ⟨hn0, hn40, hrg⟩ := hR
  obtain ⟨ga1, ga2, ga3⟩ := hel a ha.1 ha.2
  rw [← hua] at ga1 ga2 ga3
  have ra := hrg a ha.1 ha.2
  have ia : 0 ≤ ua ∧ ua < 440 := by omega
  obtain ⟨gb1, gb2, gb3⟩ := hel b hb.1 hb.2
  rw [← hub] at gb1 gb2 gb3
  have rb := hrg b hb.1 hb.2
  have ib : 0 ≤ ub ∧ ub < 440 := by omega
  obtain ⟨gc1, gc2, gc3⟩ := hel c hc.1 hc.2
  rw [← huc] at gc1 gc2 gc3
  have rc := hrg c hc.1 hc.2
  have ic : 0 ≤ uc ∧ uc < 440 := by omega
  refine wp_in (C := c_M_across) (ls := [some (pR 184), some (pI ua), some (pI ub), some (pI uc)]) rfl rfl rfl rfl rfl ?_
  refine r_aload_n rfl rfl ?_
  refine r_getR rfl (so184 hS) (sr184_3 hS) ?_
  refine r_iload_n rfl rfl ?_
  refine r_iald rfl (sw187 hS) (by omega) (by omega) ?_
  rw [gb1]
  refine r_aload_n rfl rfl ?_
  refine r_getR rfl (so184 hS) (sr184_3 hS) ?_
  refine r_iload_n rfl rfl ?_
  refine r_iald rfl (sw187 hS) (by omega) (by omega) ?_
  rw [ga1]
  refine r_isub rfl ?_
  refine r_i2l rfl (by unfold inI; omega) ?_
  refine r_aload_n rfl rfl ?_
  refine r_getR rfl (so184 hS) (sr184_4 hS) ?_
  refine r_iload_n rfl rfl ?_
  refine r_iald rfl (sw188 hS) (by omega) (by omega) ?_
  rw [gc2]
  refine r_aload_n rfl rfl ?_
  refine r_getR rfl (so184 hS) (sr184_4 hS) ?_
  refine r_iload_n rfl rfl ?_
  refine r_iald rfl (sw188 hS) (by omega) (by omega) ?_
  rw [ga2]
  refine r_isub rfl ?_
  refine r_i2l rfl (by unfold inI; omega) ?_
  refine r_lmul rfl ?_
  refine r_aload_n rfl rfl ?_
  refine r_getR rfl (so184 hS) (sr184_4 hS) ?_
  refine r_iload_n rfl rfl ?_
  refine r_iald rfl (sw188 hS) (by omega) (by omega) ?_
  rw [gb2]
  refine r_aload_n rfl rfl ?_
  refine r_getR rfl (so184 hS) (sr184_4 hS) ?_
  refine r_iload_n rfl rfl ?_
  refine r_iald rfl (sw188 hS) (by omega) (by omega) ?_
  rw [ga2]
  refine r_isub rfl ?_
  refine r_i2l rfl (by unfold inI; omega) ?_
  refine r_aload_n rfl rfl ?_
  refine r_getR rfl (so184 hS) (sr184_3 hS) ?_
  refine r_iload_n rfl rfl ?_
  refine r_iald rfl (sw187 hS) (by omega) (by omega) ?_
  rw [gc1]
  refine r_aload_n rfl rfl ?_
  refine r_getR rfl (so184 hS) (sr184_3 hS) ?_
  refine r_iload_n rfl rfl ?_
  refine r_iald rfl (sw187 hS) (by omega) (by omega) ?_
  rw [ga1]
  refine r_isub rfl ?_
  refine r_i2l rfl (by unfold inI; omega) ?_
  refine r_lmul rfl ?_
  refine r_lsub rfl ?_
  refine r_lret rfl ?_
  exact hQ
set_option maxHeartbeats 2000000 in
theorem v_un2 {X : PX} {d : Nat} {S : SS} {zI zL : ZM} {Q : PQ} (hS : Sk S) {ut ua ub x0 y0 p y A B T : Int} (it : 0 ≤ ut ∧ ut < 440) (ia : 0 ≤ ua ∧ ua < 440) (ib : 0 ≤ ub ∧ ub < 440) (hA : zI 189 ua = A) (hB : zI 189 ub = B) (hT : zI 189 ut = T) (iA : inI A) (iB : inI B) (iT : inI T) (lp : inL p) (ly : inL y) (l1 : inL (A * (y - p) + B * p)) (l2 : inL (T * y))
    (h1 : 0 ≤ p → p ≤ y → A * (y - p) + B * p ≤ T * y → Q (some (pI 1)) S zI zL) (h0 : ¬ (0 ≤ p ∧ p ≤ y ∧ A * (y - p) + B * p ≤ T * y) → Q (some (pI 0)) S zI zL) : Run X d c_M_isUnderTwo 66 [some (pR 184), some (pI ut), some (pI ua), some (pI ub), some (pL x0), none, some (pL y0), none, some (pL p), none, some (pL y), none] [] S zI zL 0 0 Q := by
  have l0 : inL 0 := by unfold inL; omega
  refine r_lload rfl rfl ?_
  refine r_lconst rfl ?_
  refine r_l_lt rfl rfl lp l0 (fun h69 => ?_) (fun h69 => ?_)
  · skip
    refine r_iconst rfl ?_
    refine r_zret rfl (by first | exact Or.inl rfl | exact Or.inr rfl | assumption) ?_
    exact h0 (fun q => by have := q.1; omega)
  · skip
    refine r_lload rfl rfl ?_
    refine r_lload rfl rfl ?_
    refine r_l_gt rfl rfl lp ly (fun h73 => ?_) (fun h73 => ?_)
    · skip
      refine r_iconst rfl ?_
      refine r_zret rfl (by first | exact Or.inl rfl | exact Or.inr rfl | assumption) ?_
      exact h0 (fun q => by have := q.2.1; omega)
    · skip
      refine r_aload_n rfl rfl ?_
      refine r_getR rfl (so184 hS) (sr184_5 hS) ?_
      refine r_iload_n rfl rfl ?_
      refine r_iald rfl (sw189 hS) (by omega) (by omega) ?_
      rw [hA]
      refine r_i2l rfl iA ?_
      refine r_lload rfl rfl ?_
      refine r_lload rfl rfl ?_
      refine r_lsub rfl ?_
      refine r_lmul rfl ?_
      refine r_aload_n rfl rfl ?_
      refine r_getR rfl (so184 hS) (sr184_5 hS) ?_
      refine r_iload_n rfl rfl ?_
      refine r_iald rfl (sw189 hS) (by omega) (by omega) ?_
      rw [hB]
      refine r_i2l rfl iB ?_
      refine r_lload rfl rfl ?_
      refine r_lmul rfl ?_
      refine r_ladd rfl ?_
      refine r_aload_n rfl rfl ?_
      refine r_getR rfl (so184 hS) (sr184_5 hS) ?_
      refine r_iload_n rfl rfl ?_
      refine r_iald rfl (sw189 hS) (by omega) (by omega) ?_
      rw [hT]
      refine r_i2l rfl iT ?_
      refine r_lload rfl rfl ?_
      refine r_lmul rfl ?_
      refine r_l_gt rfl rfl l1 l2 (fun h99 => ?_) (fun h99 => ?_)
      · skip
        refine r_iconst rfl ?_
        refine r_zret rfl (by first | exact Or.inl rfl | exact Or.inr rfl | assumption) ?_
        exact h0 (fun q => by have := q.2.2; omega)
      · skip
        refine r_iconst rfl ?_
        refine r_goto rfl ?_
        refine r_zret rfl (by first | exact Or.inl rfl | exact Or.inr rfl | assumption) ?_
        exact h1 h69 h73 h99
set_option maxHeartbeats 2000000 in
theorem x_under2 {X : PX} {d : Nat} {S : SS} {zI zL : ZM} {Q : PQ} (hS : Sk S) {f n : Int} {I J V : Int → Int} (hf : 0 ≤ f ∧ f ≤ 10) (hT : FM zI f n I J V) (hR : FR n I J V) {t a b ut ua ub : Int} (ht : 0 ≤ t ∧ t < n) (hut : ut = 40 * f + t) (ha : 0 ≤ a ∧ a < n) (hua : ua = 40 * f + a) (hb : 0 ≤ b ∧ b < n) (hub : ub = 40 * f + b) (h1 : un2 I J V t a b → Q (some (pI 1)) S zI zL) (h0 : ¬ un2 I J V t a b → Q (some (pI 0)) S zI zL) : wpM X (d + 2) fM_isUnderTwo [pR 184, pI ut, pI ua, pI ub] S zI zL Q := by
  have hT0 := hT
  have hR0 := hR
  obtain ⟨e4, hel⟩ := hT
  obtain ⟨hn0, hn40, hrg⟩ := hR
  have l0 : inL 0 := by unfold inL; omega
  have lt0 : inL (trE I J a b t) := by have tb := trE_b hR0 ha hb ht; unfold inL; omega
  have it : 0 ≤ ut ∧ ut < 440 := by omega
  have ia : 0 ≤ ua ∧ ua < 440 := by omega
  have ib : 0 ≤ ub ∧ ub < 440 := by omega
  obtain ⟨gt1, gt2, gt3⟩ := hel t ht.1 ht.2
  obtain ⟨ga1, ga2, ga3⟩ := hel a ha.1 ha.2
  obtain ⟨gb1, gb2, gb3⟩ := hel b hb.1 hb.2
  rw [← hut] at gt1 gt2 gt3
  rw [← hua] at ga1 ga2 ga3
  rw [← hub] at gb1 gb2 gb3
  have rt := hrg t ht.1 ht.2
  have ra := hrg a ha.1 ha.2
  have rb := hrg b hb.1 hb.2
  have hpb : -128 ≤ ptE I J t a b ∧ ptE I J t a b ≤ 128 := by
    have m1 := mb (a := I b - I a) (b := I t - I a) (A := 8) (B := 8) (by omega) (by omega) (by omega) (by omega)
    have m2 := mb (a := J b - J a) (b := J t - J a) (A := 8) (B := 8) (by omega) (by omega) (by omega) (by omega)
    unfold ptE; omega
  have hyb : 0 ≤ byE I J a b ∧ byE I J a b ≤ 128 := by
    have a3 := sq_b (x := I b - I a) (by omega)
    have a4 := sq_b (x := J b - J a) (by omega)
    unfold byE; omega
  have l1 : inL (V a * (byE I J a b - ptE I J t a b) + V b * ptE I J t a b) := by
    have m5 := mb (a := V a) (b := byE I J a b - ptE I J t a b) (A := 200) (B := 256) ra.2.2.2.2.1 ra.2.2.2.2.2 (by omega) (by omega)
    have m6 := mb (a := V b) (b := ptE I J t a b) (A := 200) (B := 128) rb.2.2.2.2.1 rb.2.2.2.2.2 hpb.1 hpb.2
    clear rt ra rb hpb hyb
    unfold inL; omega
  have l2 : inL (V t * byE I J a b) := by
    have m7 := mb (a := V t) (b := byE I J a b) (A := 200) (B := 128) rt.2.2.2.2.1 rt.2.2.2.2.2 (by omega) hyb.2
    clear rt ra rb hpb hyb
    unfold inL; omega
  have i1 : inI (I b - I a) := by unfold inI; omega
  have i2 : inI (J b - J a) := by unfold inI; omega
  have i3' : inI (I t - I a) := by unfold inI; omega
  have i4 : inI (J t - J a) := by unfold inI; omega
  have fin : trE I J a b t = 0 → Run X (d + 1) c_M_isUnderTwo 66 [some (pR 184), some (pI ut), some (pI ua), some (pI ub), some (pL (I b - I a)), none, some (pL (J b - J a)), none, some (pL (ptE I J t a b)), none, some (pL (byE I J a b)), none] [] S zI zL 0 0 Q := fun q0 =>
    v_un2 hS it ia ib ga3 gb3 gt3 (by unfold inI; omega) (by unfold inI; omega) (by unfold inI; omega) (by unfold inL; omega) (by unfold inL; omega) l1 l2 (fun q1 q2 q3 => h1 ⟨q0, q1, q2, q3⟩) (fun q => h0 (fun q2 => q q2.2))
  clear l1 l2 hpb hyb rt ra rb
  refine wp_in (C := c_M_isUnderTwo) (ls := [some (pR 184), some (pI ut), some (pI ua), some (pI ub), none, none, none, none, none, none, none, none]) rfl rfl rfl rfl rfl ?_
  refine r_aload_n rfl rfl ?_
  refine r_iload_n rfl rfl ?_
  refine r_iload_n rfl rfl ?_
  refine r_iload_n rfl rfl ?_
  refine r_cV4 rfl (so184 hS) (Nat.le_of_ble_eq_true rfl) rfl rfl (x_across hS hf hT0 hR0 ha hua hb hub ht hut ?_)
  refine r_lconst rfl ?_
  refine r_l_eq rfl rfl lt0 l0 (fun h7 => ?_) (fun h7 => ?_)
  · skip
    refine r_aload_n rfl rfl ?_
    refine r_getR rfl (so184 hS) (sr184_3 hS) ?_
    refine r_iload_n rfl rfl ?_
    refine r_iald rfl (sw187 hS) (by omega) (by omega) ?_
    rw [gb1]
    refine r_aload_n rfl rfl ?_
    refine r_getR rfl (so184 hS) (sr184_3 hS) ?_
    refine r_iload_n rfl rfl ?_
    refine r_iald rfl (sw187 hS) (by omega) (by omega) ?_
    rw [ga1]
    refine r_isub rfl ?_
    refine r_i2l rfl i1 ?_
    refine r_lstore rfl (Nat.le_of_ble_eq_true rfl) ?_
    refine r_aload_n rfl rfl ?_
    refine r_getR rfl (so184 hS) (sr184_4 hS) ?_
    refine r_iload_n rfl rfl ?_
    refine r_iald rfl (sw188 hS) (by omega) (by omega) ?_
    rw [gb2]
    refine r_aload_n rfl rfl ?_
    refine r_getR rfl (so184 hS) (sr184_4 hS) ?_
    refine r_iload_n rfl rfl ?_
    refine r_iald rfl (sw188 hS) (by omega) (by omega) ?_
    rw [ga2]
    refine r_isub rfl ?_
    refine r_i2l rfl i2 ?_
    refine r_lstore rfl (Nat.le_of_ble_eq_true rfl) ?_
    refine r_lload rfl rfl ?_
    refine r_aload_n rfl rfl ?_
    refine r_getR rfl (so184 hS) (sr184_3 hS) ?_
    refine r_iload_n rfl rfl ?_
    refine r_iald rfl (sw187 hS) (by omega) (by omega) ?_
    rw [gt1]
    refine r_aload_n rfl rfl ?_
    refine r_getR rfl (so184 hS) (sr184_3 hS) ?_
    refine r_iload_n rfl rfl ?_
    refine r_iald rfl (sw187 hS) (by omega) (by omega) ?_
    rw [ga1]
    refine r_isub rfl ?_
    refine r_i2l rfl i3' ?_
    refine r_lmul rfl ?_
    refine r_lload rfl rfl ?_
    refine r_aload_n rfl rfl ?_
    refine r_getR rfl (so184 hS) (sr184_4 hS) ?_
    refine r_iload_n rfl rfl ?_
    refine r_iald rfl (sw188 hS) (by omega) (by omega) ?_
    rw [gt2]
    refine r_aload_n rfl rfl ?_
    refine r_getR rfl (so184 hS) (sr184_4 hS) ?_
    refine r_iload_n rfl rfl ?_
    refine r_iald rfl (sw188 hS) (by omega) (by omega) ?_
    rw [ga2]
    refine r_isub rfl ?_
    refine r_i2l rfl i4 ?_
    refine r_lmul rfl ?_
    refine r_ladd rfl ?_
    rw [show (I b - I a) * (I t - I a) + (J b - J a) * (J t - J a) = ptE I J t a b from rfl]
    refine r_lstore rfl (Nat.le_of_ble_eq_true rfl) ?_
    refine r_lload rfl rfl ?_
    refine r_lload rfl rfl ?_
    refine r_lmul rfl ?_
    refine r_lload rfl rfl ?_
    refine r_lload rfl rfl ?_
    refine r_lmul rfl ?_
    refine r_ladd rfl ?_
    rw [show (I b - I a) * (I b - I a) + (J b - J a) * (J b - J a) = byE I J a b from rfl]
    refine r_lstore rfl (Nat.le_of_ble_eq_true rfl) ?_
    exact fin h7
  · skip
    refine r_iconst rfl ?_
    refine r_zret rfl (by first | exact Or.inl rfl | exact Or.inr rfl | assumption) ?_
    exact h0 (fun q => h7 q.1)
theorem sg1_i (x : Int) : sg1 x = -1 ∨ sg1 x = 1 := by unfold sg1; split; exact Or.inl rfl; exact Or.inr rfl
theorem sgm_b {x s B : Int} (hs : s = -1 ∨ s = 1) (hx : -B ≤ x ∧ x ≤ B) : -B ≤ x * s ∧ x * s ≤ B := by
  rcases hs with e | e
  · rw [e]; omega
  · rw [e]; omega
set_option maxHeartbeats 2000000 in
theorem v_un3 {X : PX} {d : Nat} {S : SS} {zI zL : ZM} {Q : PQ} (hS : Sk S) {ut ua ub uc D s x y v A B C T : Int} (it : 0 ≤ ut ∧ ut < 440) (ia : 0 ≤ ua ∧ ua < 440) (ib : 0 ≤ ub ∧ ub < 440) (ic : 0 ≤ uc ∧ uc < 440) (hA : zI 189 ua = A) (hB : zI 189 ub = B) (hC : zI 189 uc = C) (hT : zI 189 ut = T) (bA : -200 ≤ A ∧ A ≤ 200) (bB : -200 ≤ B ∧ B ≤ 200) (bC : -200 ≤ C ∧ C ≤ 200) (bT : -200 ≤ T ∧ T ≤ 200) (bx : -128 ≤ x ∧ x ≤ 128) (by1 : -128 ≤ y ∧ y ≤ 128) (bv : -128 ≤ v ∧ v ≤ 128) (bD : -128 ≤ D ∧ D ≤ 128) (si : s = -1 ∨ s = 1)
    (h1 : 0 ≤ x → 0 ≤ y → 0 ≤ v → x * A + y * B + v * C ≤ T * D * s → Q (some (pI 1)) S zI zL) (h0 : ¬ (0 ≤ x ∧ 0 ≤ y ∧ 0 ≤ v ∧ x * A + y * B + v * C ≤ T * D * s) → Q (some (pI 0)) S zI zL) : Run X d c_M_isUnderThree 44 [some (pR 184), some (pI ut), some (pI ua), some (pI ub), some (pI uc), some (pL D), none, some (pL s), none, some (pL x), none, some (pL y), none, some (pL v), none] [] S zI zL 0 0 Q := by
  have l0 : inL 0 := by unfold inL; omega
  have lx : inL x := by unfold inL; omega
  have ly : inL y := by unfold inL; omega
  have lv : inL v := by unfold inL; omega
  have iA : inI A := by unfold inI; omega
  have iB : inI B := by unfold inI; omega
  have iC : inI C := by unfold inI; omega
  have iT : inI T := by unfold inI; omega
  have m1 := mb bx.1 bx.2 bA.1 bA.2
  have m2 := mb by1.1 by1.2 bB.1 bB.2
  have m3 := mb bv.1 bv.2 bC.1 bC.2
  have m4 := mb bT.1 bT.2 bD.1 bD.2
  have m5 := sgm_b (x := T * D) (B := 25600) si (by omega)
  have ls1 : inL (x * A + y * B + v * C) := by unfold inL; omega
  have ls2 : inL (T * D * s) := by unfold inL; omega
  clear m1 m2 m3 m4 m5 bA bB bC bT bx by1 bv bD si
  refine r_lload rfl rfl ?_
  refine r_lconst rfl ?_
  refine r_l_lt rfl rfl lx l0 (fun h47 => ?_) (fun h47 => ?_)
  · skip
    refine r_iconst rfl ?_
    refine r_zret rfl (by first | exact Or.inl rfl | exact Or.inr rfl | assumption) ?_
    exact h0 (fun q => by have := q.1; omega)
  · skip
    refine r_lload rfl rfl ?_
    refine r_lconst rfl ?_
    refine r_l_lt rfl rfl ly l0 (fun h51 => ?_) (fun h51 => ?_)
    · skip
      refine r_iconst rfl ?_
      refine r_zret rfl (by first | exact Or.inl rfl | exact Or.inr rfl | assumption) ?_
      exact h0 (fun q => by have := q.2.1; omega)
    · skip
      refine r_lload rfl rfl ?_
      refine r_lconst rfl ?_
      refine r_l_lt rfl rfl lv l0 (fun h55 => ?_) (fun h55 => ?_)
      · skip
        refine r_iconst rfl ?_
        refine r_zret rfl (by first | exact Or.inl rfl | exact Or.inr rfl | assumption) ?_
        exact h0 (fun q => by have := q.2.2.1; omega)
      · skip
        refine r_lload rfl rfl ?_
        refine r_aload_n rfl rfl ?_
        refine r_getR rfl (so184 hS) (sr184_5 hS) ?_
        refine r_iload_n rfl rfl ?_
        refine r_iald rfl (sw189 hS) (by omega) (by omega) ?_
        rw [hA]
        refine r_i2l rfl iA ?_
        refine r_lmul rfl ?_
        refine r_lload rfl rfl ?_
        refine r_aload_n rfl rfl ?_
        refine r_getR rfl (so184 hS) (sr184_5 hS) ?_
        refine r_iload_n rfl rfl ?_
        refine r_iald rfl (sw189 hS) (by omega) (by omega) ?_
        rw [hB]
        refine r_i2l rfl iB ?_
        refine r_lmul rfl ?_
        refine r_ladd rfl ?_
        refine r_lload rfl rfl ?_
        refine r_aload_n rfl rfl ?_
        refine r_getR rfl (so184 hS) (sr184_5 hS) ?_
        refine r_iload rfl rfl ?_
        refine r_iald rfl (sw189 hS) (by omega) (by omega) ?_
        rw [hC]
        refine r_i2l rfl iC ?_
        refine r_lmul rfl ?_
        refine r_ladd rfl ?_
        refine r_aload_n rfl rfl ?_
        refine r_getR rfl (so184 hS) (sr184_5 hS) ?_
        refine r_iload_n rfl rfl ?_
        refine r_iald rfl (sw189 hS) (by omega) (by omega) ?_
        rw [hT]
        refine r_i2l rfl iT ?_
        refine r_lload rfl rfl ?_
        refine r_lmul rfl ?_
        refine r_lload rfl rfl ?_
        refine r_lmul rfl ?_
        refine r_l_gt rfl rfl ls1 ls2 (fun h89 => ?_) (fun h89 => ?_)
        · skip
          refine r_iconst rfl ?_
          refine r_zret rfl (by first | exact Or.inl rfl | exact Or.inr rfl | assumption) ?_
          exact h0 (fun q => by have := q.2.2.2; omega)
        · skip
          refine r_iconst rfl ?_
          refine r_goto rfl ?_
          refine r_zret rfl (by first | exact Or.inl rfl | exact Or.inr rfl | assumption) ?_
          exact h1 h47 h51 h55 h89
set_option maxHeartbeats 2000000 in
theorem x_under3 {X : PX} {d : Nat} {S : SS} {zI zL : ZM} {Q : PQ} (hS : Sk S) {f n : Int} {I J V : Int → Int} (hf : 0 ≤ f ∧ f ≤ 10) (hT : FM zI f n I J V) (hR : FR n I J V) {t a b c ut ua ub uc : Int} (ht : 0 ≤ t ∧ t < n) (hut : ut = 40 * f + t) (ha : 0 ≤ a ∧ a < n) (hua : ua = 40 * f + a) (hb : 0 ≤ b ∧ b < n) (hub : ub = 40 * f + b) (hc : 0 ≤ c ∧ c < n) (huc : uc = 40 * f + c) (h1 : un3 I J V t a b c → Q (some (pI 1)) S zI zL) (h0 : ¬ un3 I J V t a b c → Q (some (pI 0)) S zI zL) : wpM X (d + 2) fM_isUnderThree [pR 184, pI ut, pI ua, pI ub, pI uc] S zI zL Q := by
  have hT0 := hT
  have hR0 := hR
  obtain ⟨e4, hel⟩ := hT
  obtain ⟨hn0, hn40, hrg⟩ := hR
  have l0 : inL 0 := by unfold inL; omega
  have tb := trE_b hR0 ha hb hc
  have lD : inL (trE I J a b c) := by unfold inL; omega
  have rest : ∀ s : Int, s = sg1 (trE I J a b c) → trE I J a b c ≠ 0 → Run X (d + 1) c_M_isUnderThree 19 [some (pR 184), some (pI ut), some (pI ua), some (pI ub), some (pI uc), some (pL (trE I J a b c)), none, none, none, none, none, none, none, none, none] [pL s] S zI zL 0 0 Q := by
    intro s hs hne
    have si := sg1_i (trE I J a b c)
    have b1 := sgm_b si (trE_b hR0 ht hb hc)
    have b2 := sgm_b si (trE_b hR0 ha ht hc)
    have b3 := sgm_b si (trE_b hR0 ha hb ht)
    rw [← hs] at b1 b2 b3 si
    have it : 0 ≤ ut ∧ ut < 440 := by omega
    have ia : 0 ≤ ua ∧ ua < 440 := by omega
    have ib : 0 ≤ ub ∧ ub < 440 := by omega
    have ic : 0 ≤ uc ∧ uc < 440 := by omega
    have gt := (hel t ht.1 ht.2).2.2
    have ga := (hel a ha.1 ha.2).2.2
    have gb := (hel b hb.1 hb.2).2.2
    have gc := (hel c hc.1 hc.2).2.2
    rw [← hut] at gt
    rw [← hua] at ga
    rw [← hub] at gb
    rw [← huc] at gc
    have fin := v_un3 (X := X) (d := d + 1) (Q := Q) (zL := zL) hS it ia ib ic ga gb gc gt (hrg a ha.1 ha.2).2.2.2.2 (hrg b hb.1 hb.2).2.2.2.2 (hrg c hc.1 hc.2).2.2.2.2 (hrg t ht.1 ht.2).2.2.2.2 b1 b2 b3 tb si (fun q1 q2 q3 q4 => h1 (by unfold un3; rw [← hs]; exact ⟨hne, q1, q2, q3, q4⟩)) (fun q => h0 (fun q2 => q (by unfold un3 at q2; rw [← hs] at q2; exact q2.2)))
    refine r_lstore rfl (Nat.le_of_ble_eq_true rfl) ?_
    refine r_aload_n rfl rfl ?_
    refine r_iload_n rfl rfl ?_
    refine r_iload_n rfl rfl ?_
    refine r_iload rfl rfl ?_
    refine r_cV4 rfl (so184 hS) (Nat.le_of_ble_eq_true rfl) rfl rfl (x_across hS hf hT0 hR0 ht hut hb hub hc huc ?_)
    refine r_lload rfl rfl ?_
    refine r_lmul rfl ?_
    refine r_lstore rfl (Nat.le_of_ble_eq_true rfl) ?_
    refine r_aload_n rfl rfl ?_
    refine r_iload_n rfl rfl ?_
    refine r_iload_n rfl rfl ?_
    refine r_iload rfl rfl ?_
    refine r_cV4 rfl (so184 hS) (Nat.le_of_ble_eq_true rfl) rfl rfl (x_across hS hf hT0 hR0 ha hua ht hut hc huc ?_)
    refine r_lload rfl rfl ?_
    refine r_lmul rfl ?_
    refine r_lstore rfl (Nat.le_of_ble_eq_true rfl) ?_
    refine r_aload_n rfl rfl ?_
    refine r_iload_n rfl rfl ?_
    refine r_iload_n rfl rfl ?_
    refine r_iload_n rfl rfl ?_
    refine r_cV4 rfl (so184 hS) (Nat.le_of_ble_eq_true rfl) rfl rfl (x_across hS hf hT0 hR0 ha hua hb hub ht hut ?_)
    refine r_lload rfl rfl ?_
    refine r_lmul rfl ?_
    refine r_lstore rfl (Nat.le_of_ble_eq_true rfl) ?_
    exact fin
  refine wp_in (C := c_M_isUnderThree) (ls := [some (pR 184), some (pI ut), some (pI ua), some (pI ub), some (pI uc), none, none, none, none, none, none, none, none, none, none]) rfl rfl rfl rfl rfl ?_
  refine r_aload_n rfl rfl ?_
  refine r_iload_n rfl rfl ?_
  refine r_iload_n rfl rfl ?_
  refine r_iload rfl rfl ?_
  refine r_cV4 rfl (so184 hS) (Nat.le_of_ble_eq_true rfl) rfl rfl (x_across hS hf hT0 hR0 ha hua hb hub hc huc ?_)
  refine r_lstore rfl (Nat.le_of_ble_eq_true rfl) ?_
  refine r_lload rfl rfl ?_
  refine r_lconst rfl ?_
  refine r_l_ne rfl rfl lD l0 (fun h9 => ?_) (fun h9 => ?_)
  · skip
    refine r_lload rfl rfl ?_
    refine r_lconst rfl ?_
    refine r_l_ge rfl rfl lD l0 (fun h15 => ?_) (fun h15 => ?_)
    · skip
      refine r_lconst rfl ?_
      exact rest 1 (by unfold sg1; rw [if_neg (by omega)]) h9
    · skip
      refine r_ldc2_w rfl ?_
      refine r_goto rfl ?_
      exact rest (-1) (by unfold sg1; rw [if_pos (by omega)]) h9
  · skip
    refine r_iconst rfl ?_
    refine r_zret rfl (by first | exact Or.inl rfl | exact Or.inr rfl | assumption) ?_
    exact h0 (fun q => q.1 h9)
