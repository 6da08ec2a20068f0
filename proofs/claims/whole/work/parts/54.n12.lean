/-! THE REFERENCE: meets: what is clear, edges kept, a meet kept -/
theorem cnt_0 (p : Int → Bool) (k : Int) : cnt p 0 k = 0 := rfl
theorem tch_0 {n2 : Int} {I2 J2 V2 : Int → Int} {m : Int} {X XD Y YD : Int → Int} (h : n2 ≤ 0) : tchS n2 I2 J2 V2 m X XD Y YD = 0 := by
  unfold tchS
  rw [if_pos]
  rcases srch_in (fun k => decide (2 ≤ countS n2 I2 J2 V2 (X k) (XD k) (Y k) (YD k))) m.toNat 0 with q | ⟨-, -, q⟩
  · exact q
  · exfalso
    rw [decide_eq_true_eq] at q
    unfold countS at q
    rw [show n2.toNat = 0 by omega, cnt_0] at q
    omega
def clS (n : Int) (I J V : Int → Int) (n2 : Int) (I2 J2 V2 : Int → Int) : Int := tchS n2 I2 J2 V2 (crL n I J V).1 (crL n I J V).2.1 (crL n I J V).2.2.1 (crL n I J V).2.2.2.1 (crL n I J V).2.2.2.2.1
/-- what may change as curves are looked at -/
def frQ (z' z : ZM) : Prop := (∀ c, c ≠ 184 → (c < 194 ∨ 211 < c) → z' c = z c) ∧ ∀ k, k ≠ 17 → k ≠ 18 → k ≠ 27 → k ≠ 28 → k ≠ 33 → k ≠ 36 → z' 184 k = z 184 k
def frQL (z' z : ZM) : Prop := (∀ c, c ≠ 184 → c ≠ 203 → c ≠ 204 → c ≠ 212 → z' c = z c) ∧ ∀ k, (k < 11 ∨ (14 < k ∧ k < 29) ∨ 32 < k) → z' 184 k = z 184 k
theorem frQ_r (z : ZM) : frQ z z := ⟨fun _ _ _ => rfl, fun _ _ _ _ _ _ _ => rfl⟩
theorem frQL_r (z : ZM) : frQL z z := ⟨fun _ _ _ _ _ => rfl, fun _ _ => rfl⟩
theorem frQ_t {z z2 z3 : ZM} (h1 : frQ z2 z) (h2 : frQ z3 z2) : frQ z3 z := ⟨fun c a b => (h2.1 c a b).trans (h1.1 c a b), fun k a b c e g i => (h2.2 k a b c e g i).trans (h1.2 k a b c e g i)⟩
theorem frQL_t {z z2 z3 : ZM} (h1 : frQL z2 z) (h2 : frQL z3 z2) : frQL z3 z := ⟨fun c a b e g => (h2.1 c a b e g).trans (h1.1 c a b e g), fun k a => (h2.2 k a).trans (h1.2 k a)⟩
theorem frQ_K {z' z : ZM} (h : frK z' z) : frQ z' z := ⟨fun c a b => h.1 c a (by omega) (by omega), fun k a b c e g i => h.2 k b c e g⟩
theorem frQ_E {z' z : ZM} (h : frE z' z) : frQ z' z := ⟨fun c a b => h.1 c a (by omega), fun k a b c e g i => h.2 k b c e⟩
theorem frQ_R {z' z : ZM} (h : frR z' z) : frQ z' z := ⟨fun c a b => h.1 c a (by omega) (by omega), fun k a b c e g i => h.2 k a⟩
theorem frQL_K {z' z : ZM} (h : frKL z' z) : frQL z' z := ⟨fun c a b e g => h.1 c a b e, fun k a => h.2 k (by omega)⟩
theorem frQL_E {z' z : ZM} (h : frEL z' z) : frQL z' z := ⟨fun c a b e g => h.1 c a b, fun k a => h.2 k (by omega)⟩
theorem frQL_s {z : ZM} {x xd y yd : Int} : frQL (stM z x xd y yd) z := ⟨fun c a _ _ _ => stM_row a, fun k a => stM_off (by omega)⟩
theorem FM_frQ {z z' : ZM} {g n : Int} {I J V : Int → Int} (h : FM z g n I J V) (hz : frQ z' z) : FM z' g n I J V := FM_fr h (fun c k0 k1 => hz.1 c (by omega) (by omega))
theorem CrH_fr {z z' z2 z2' : ZM} {s : KS} (h : CrH z z2 s) (h33 : z' 184 33 = z 184 33) (hz : z' 205 = z 205) (hz2 : z2' 204 = z2 204) : CrH z' z2' s := by
  unfold CrH at *; rw [h33, hz, hz2]; exact h
set_option maxHeartbeats 4000000 in
theorem x_isClear {X : PX} {d : Nat} {S : SS} {zI zL : ZM} {Q : PQ} (hS : Sk S) {f n : Int} {I J V : Int → Int} (hf : 0 ≤ f ∧ f ≤ 10) (hT : FM zI f n I J V) (hR : FR n I J V) {f2 n2 : Int} {I2 J2 V2 : Int → Int} (hf2 : 0 ≤ f2 ∧ f2 ≤ 10) (hT2 : FM zI f2 n2 I2 J2 V2) (hR2 : FR n2 I2 J2 V2) (hS2 : FS n I J) (hcap : (edL n I J V).length ≤ 700) (hcm : (crL n I J V).1 ≤ 1560) (hQ : ∀ z z2, frQ z zI → frQL z2 zL → Q (some (pI (1 - clS n I J V n2 I2 J2 V2))) S z z2) : wpM X (d + 6) fM_isClear [pR 184, pI f, pI f2] S zI zL Q := by
  have e2 := hT2.1
  have n20 := hR2.1
  have n240 := hR2.2.1
  have keyA : 0 < n2 → ∀ (z z2 : ZM), frQ z zI → frQL z2 zL → CrH z z2 (crL n I J V) → CrR (crL n I J V) → Run X (d + 5) c_M_isClear 10 [some (pR 184), some (pI f), some (pI f2), none, none] [] S z z2 0 0 Q := by
    intro hn2 z z2 hz hz2 hC hCR
    obtain ⟨cl, hcl⟩ : ∃ cl, cl = crL n I J V := ⟨_, rfl⟩
    rw [← hcl] at hC hCR hcm
    obtain ⟨m, X0, XD, Y, YD, H⟩ := cl
    obtain ⟨e33, hcel⟩ := hC
    replace e33 : z 184 33 = m := e33
    have hm0 : 0 ≤ m := hCR.1
    replace hcm : m ≤ 1560 := hcm
    have hT2z := FM_frQ hT2 hz
    have hQ2 : ∀ z2', frQL z2' zL → Q (some (pI (1 - tchS n2 I2 J2 V2 m X0 XD Y YD))) S z z2' := fun z2' h => by
      have := hQ z z2' hz h
      unfold clS at this; rw [← hcl] at this; exact this
    obtain ⟨W, hW⟩ : ∃ W : Int → Bool, W = fun k => decide (2 ≤ countS n2 I2 J2 V2 (X0 k) (XD k) (Y k) (YD k)) := ⟨_, rfl⟩
    unfold tchS at hQ2
    rw [← hW] at hQ2
    have key : ∀ k : Int, k ≤ m → 0 ≤ k → ∀ z2', frQL z2' zL → z2' 204 = z2 204 → srch W (m - k).toNat k = srch W m.toNat 0 → Run X (d + 5) c_M_isClear 14 [some (pR 184), some (pI f), some (pI f2), some (pI 1), some (pI k)] [] S z z2' 0 0 Q := by
      refine loop_up _ m (fun k hk ih h0 z2' hz2' h204 hs => ?_)
      refine r_iload rfl rfl ?_
      refine r_aload_n rfl rfl ?_
      refine r_getI rfl (so184 hS) ?_
      rw [e33]
      refine r_icmp_ge rfl (by unfold inI; omega) (by unfold inI; omega) (fun h17 => ?_) (fun h17 => ?_)
      · skip
        rw [srch_end (by omega)] at hs; rw [← hs, if_pos rfl] at hQ2
        refine r_iload_n rfl rfl ?_
        refine r_zret rfl (by first | exact Or.inl rfl | exact Or.inr rfl | assumption) ?_
        exact hQ2 z2' hz2'
      · skip
        refine r_iload_n rfl rfl ?_
        refine r_if_eq rfl (by unfold inI; omega) (fun h19 => ?_) (fun h19 => ?_)
        · skip
          exact absurd h19 (by decide)
        · skip
          have hkm : k < m := by omega
          have hpb := hCR.2 k h0 hkm
          obtain ⟨⟨q1, q2, q3, q4⟩, -⟩ := hcel k h0 hkm
          replace q1 : z2 204 (4 * k) = X0 k := q1
          replace q2 : z2 204 (4 * k + 1) = XD k := q2
          replace q3 : z2 204 (4 * k + 2) = Y k := q3
          replace q4 : z2 204 (4 * k + 3) = YD k := q4
          rw [← h204] at q1 q2 q3 q4
          replace hpb : PB (X0 k) (XD k) (Y k) (YD k) := hpb
          have hfr := frQL_t hz2' (frQL_s (z := z2') (x := X0 k) (xd := XD k) (y := Y k) (yd := YD k))
          have h2 : stM z2' (X0 k) (XD k) (Y k) (YD k) 204 = z2 204 := by rw [stM_row (by decide)]; exact h204
          have cb := cnt_b (fun t => decide (wv (I2 t) (J2 t) (V2 t) (X0 k) (XD k) (Y k) (YD k) = leastS n2 I2 J2 V2 (X0 k) (XD k) (Y k) (YD k))) n2.toNat 0
          replace cb : 0 ≤ countS n2 I2 J2 V2 (X0 k) (XD k) (Y k) (YD k) ∧ countS n2 I2 J2 V2 (X0 k) (XD k) (Y k) (YD k) ≤ (n2.toNat : Int) := cb
          have wd : W k = decide (2 ≤ countS n2 I2 J2 V2 (X0 k) (XD k) (Y k) (YD k)) := by rw [hW]
          refine r_aload_n rfl rfl ?_
          refine r_iload rfl rfl ?_
          refine r_cV2 rfl (so184 hS) (Nat.le_of_ble_eq_true rfl) rfl rfl (x_standC hS h0 (by omega) ?_)
          rw [q1, q2, q3, q4]
          refine r_aload_n rfl rfl ?_
          refine r_iload_n rfl rfl ?_
          refine r_cV2 rfl (so184 hS) (Nat.le_of_ble_eq_true rfl) rfl rfl (x_countLeast hS hf2 hT2z hR2 PM_st hpb hn2 ?_)
          refine r_iconst rfl ?_
          refine r_icmp_ge rfl (by unfold inI; omega) (by unfold inI; omega) (fun h27 => ?_) (fun h27 => ?_)
          · skip
            refine r_iconst rfl ?_
            rw [srch_hit hkm (by rw [wd, decide_eq_true_eq]; omega)] at hs; rw [← hs, if_neg (by omega)] at hQ2
            refine r_istore_n rfl (Nat.le_of_ble_eq_true rfl) ?_
            refine r_iinc rfl rfl ?_
            refine r_goto rfl ?_
            refine r_iload rfl rfl ?_
            refine r_aload_n rfl rfl ?_
            refine r_getI rfl (so184 hS) ?_
            rw [e33]
            refine r_icmp_ge rfl (by unfold inI; omega) (by unfold inI; omega) (fun h17 => ?_) (fun h17 => ?_)
            · skip
              refine r_iload_n rfl rfl ?_
              refine r_zret rfl (by first | exact Or.inl rfl | exact Or.inr rfl | assumption) ?_
              exact hQ2 _ hfr
            · skip
              refine r_iload_n rfl rfl ?_
              refine r_if_eq rfl (by unfold inI; omega) (fun h19 => ?_) (fun h19 => ?_)
              · skip
                refine r_iload_n rfl rfl ?_
                refine r_zret rfl (by first | exact Or.inl rfl | exact Or.inr rfl | assumption) ?_
                exact hQ2 _ hfr
              · skip
                exact absurd rfl h19
          · skip
            refine r_iconst rfl ?_
            refine r_goto rfl ?_
            refine r_istore_n rfl (Nat.le_of_ble_eq_true rfl) ?_
            refine r_iinc rfl rfl ?_
            refine r_goto rfl ?_
            exact ih hkm (by omega) _ hfr h2 (by rw [← srch_miss hkm (by rw [wd, decide_eq_false_iff_not]; omega)]; exact hs)
    refine r_iconst rfl ?_
    refine r_istore_n rfl (Nat.le_of_ble_eq_true rfl) ?_
    refine r_iconst rfl ?_
    refine r_istore rfl (Nat.le_of_ble_eq_true rfl) ?_
    exact key 0 hm0 (Int.le_refl _) z2 hz2 rfl (by rw [Int.sub_zero])
  refine wp_in (C := c_M_isClear) (ls := [some (pR 184), some (pI f), some (pI f2), none, none]) rfl rfl rfl rfl rfl ?_
  refine r_aload_n rfl rfl ?_
  refine r_getR rfl (so184 hS) (sr184_2 hS) ?_
  refine r_iload_n rfl rfl ?_
  refine r_iald rfl (sw186 hS) (by omega) (by omega) ?_
  rw [e2]
  refine r_if_ne rfl (by unfold inI; omega) (fun h4 => ?_) (fun h4 => ?_)
  · skip
    refine r_aload_n rfl rfl ?_
    refine r_iload_n rfl rfl ?_
    refine r_cV2 rfl (so184 hS) (Nat.le_of_ble_eq_true rfl) rfl rfl (x_findCorners hS hf hT hR hS2 hcap (fun z3 z4 f3 f4 hE hC hCR => ?_))
    exact keyA (by omega) z3 z4 (frQ_K f3) (frQL_K f4) hC hCR
  · skip
    refine r_iconst rfl ?_
    refine r_zret rfl (by first | exact Or.inl rfl | exact Or.inr rfl | assumption) ?_
    have := hQ zI zL (frQ_r _) (frQL_r _)
    unfold clS at this
    rw [tch_0 (by omega)] at this; exact this
/-- the edges that are kept -/
def EdK (z : ZM) (f : Int) (I J : Int → Int) (k : Int) (e : EE) : Prop := z 206 k = 40 * f + e.1 ∧ z 207 k = 40 * f + e.2.1 ∧ z 208 k = dirX I J e.1 e.2.1 ∧ z 209 k = dirY I J e.1 e.2.1 ∧ z 210 k = gc (I e.2.1 - I e.1) (J e.2.1 - J e.1) ∧ z 211 k = (if knd e.2.2.1 e.2.2.2 = 3 then 1 else 0)
def KH (z : ZM) (f : Int) (I J : Int → Int) (L : List EE) : Prop := z 184 36 = (L.length : Int) ∧ ∀ (k : Nat) (e : EE), L[k]? = some e → EdK z f I J (k : Int) e
def EdG (z : ZM) (f : Int) (I J : Int → Int) (k : Int) (e : EE) : Prop := z 196 k = 40 * f + e.1 ∧ z 197 k = 40 * f + e.2.1 ∧ z 198 k = dirX I J e.1 e.2.1 ∧ z 199 k = dirY I J e.1 e.2.1 ∧ z 200 k = gc (I e.2.1 - I e.1) (J e.2.1 - J e.1) ∧ z 201 k = n1 e.2.2.1 ∧ z 202 k = n1 e.2.2.2
def GH (z : ZM) (f : Int) (I J : Int → Int) (L : List EE) : Prop := z 184 18 = (L.length : Int) ∧ ∀ (k : Nat) (e : EE), L[k]? = some e → EdG z f I J (k : Int) e
theorem GH_E {z z2 : ZM} {f : Int} {I J V : Int → Int} {L : List EE} (h : EH z z2 f I J V L) : GH z f I J L := ⟨h.1, fun k e hk => (h.2 k e hk).1⟩
theorem KH_fr {z z' : ZM} {f : Int} {I J : Int → Int} {L : List EE} (h : KH z f I J L) (h36 : z' 184 36 = z 184 36) (hz : ∀ c, 206 ≤ c → c ≤ 211 → z' c = z c) : KH z' f I J L := by
  unfold KH EdK at *
  rw [h36, hz 206 (by decide) (by decide), hz 207 (by decide) (by decide), hz 208 (by decide) (by decide), hz 209 (by decide) (by decide), hz 210 (by decide) (by decide), hz 211 (by decide) (by decide)]
  exact h
theorem GH_fr {z z' : ZM} {f : Int} {I J : Int → Int} {L : List EE} (h : GH z f I J L) (h18 : z' 184 18 = z 184 18) (hz : ∀ c, 196 ≤ c → c ≤ 202 → z' c = z c) : GH z' f I J L := by
  unfold GH EdG at *
  rw [h18, hz 196 (by decide) (by decide), hz 197 (by decide) (by decide), hz 198 (by decide) (by decide), hz 199 (by decide) (by decide), hz 200 (by decide) (by decide), hz 201 (by decide) (by decide), hz 202 (by decide) (by decide)]
  exact h
set_option maxHeartbeats 4000000 in
theorem x_keepEdges {X : PX} {d : Nat} {S : SS} {zI zL : ZM} {Q : PQ} (hS : Sk S) {f n : Int} {I J V : Int → Int} (hf : 0 ≤ f ∧ f ≤ 10) (hT : FM zI f n I J V) (hR : FR n I J V) (hS2 : FS n I J) (hcap : (edL n I J V).length ≤ 780) (hQ : ∀ z z2, frQ z zI → frQL z2 zL → KH z f I J (edL n I J V) → Q none S z z2) : wpM X (d + 5) fM_keepEdges [pR 184, pI f] S zI zL Q := by
  have key : ∀ (z2 : ZM), frQL z2 zL → ∀ (r k : Nat), k + r = (edL n I J V).length → ∀ z : ZM, frQ z zI → GH z f I J (edL n I J V) → z 184 36 = ((edL n I J V).length : Int) → (∀ (j : Nat) (e : EE), j < k → (edL n I J V)[j]? = some e → EdK z f I J (j : Int) e) → Run X (d + 4) c_M_keepEdges 9 [some (pR 184), some (pI f), some (pI (k : Int))] [] S z z2 0 0 Q := by
    intro z2 hz2 r
    induction r with
    | zero =>
      intro k hk z hz hG h36 hK
      have e18 := hG.1
      refine r_iload_n rfl rfl ?_
      refine r_aload_n rfl rfl ?_
      refine r_getI rfl (so184 hS) ?_
      rw [e18]
      refine r_icmp_ge rfl (by unfold inI; omega) (by unfold inI; omega) (fun h12 => ?_) (fun h12 => ?_)
      · skip
        refine r_ret rfl ?_
        refine hQ z z2 hz hz2 ⟨h36, fun j e hj => hK j e ?_ hj⟩
        have := (List.getElem?_eq_some_iff.mp hj).1; omega
      · skip
        omega
    | succ r ih =>
      intro k hk z hz hG h36 hK
      have e18 := hG.1
      have hkl : k < (edL n I J V).length := by omega
      obtain ⟨e, he⟩ : ∃ e, (edL n I J V)[k]? = some e := ⟨_, List.getElem?_eq_getElem hkl⟩
      obtain ⟨g1, g2, g3, g4, g5, g6, g7⟩ := hG.2 k e he
      have kb := knd_b e.2.2.1 e.2.2.2
      have nx : ∀ v, v = (if knd e.2.2.1 e.2.2.2 = 3 then 1 else 0) → Run X (d + 4) c_M_keepEdges 65 [some (pR 184), some (pI f), some (pI (k : Int))] [] S (zput (zput (zput (zput (zput (zput z 206 k (40 * f + e.1)) 207 k (40 * f + e.2.1)) 208 k (dirX I J e.1 e.2.1)) 209 k (dirY I J e.1 e.2.1)) 210 k (gc (I e.2.1 - I e.1) (J e.2.1 - J e.1))) 211 k v) z2 0 0 Q := by
        intro v hv
        refine r_iinc rfl rfl ?_
        refine r_goto rfl ?_
        have h9 := ih (k + 1) (by omega) (zput (zput (zput (zput (zput (zput z 206 k (40 * f + e.1)) 207 k (40 * f + e.2.1)) 208 k (dirX I J e.1 e.2.1)) 209 k (dirY I J e.1 e.2.1)) 210 k (gc (I e.2.1 - I e.1) (J e.2.1 - J e.1))) 211 k v) ⟨fun c a b => by rw [zput_row (by omega), zput_row (by omega), zput_row (by omega), zput_row (by omega), zput_row (by omega), zput_row (by omega)]; exact hz.1 c a b, fun j a b c e g i => by rw [zput_row (by decide), zput_row (by decide), zput_row (by decide), zput_row (by decide), zput_row (by decide), zput_row (by decide)]; exact hz.2 j a b c e g i⟩ (GH_fr hG (by rw [zput_row (by decide), zput_row (by decide), zput_row (by decide), zput_row (by decide), zput_row (by decide), zput_row (by decide)]) (fun c a b => by rw [zput_row (by omega), zput_row (by omega), zput_row (by omega), zput_row (by omega), zput_row (by omega), zput_row (by omega)])) (by rw [zput_row (by decide), zput_row (by decide), zput_row (by decide), zput_row (by decide), zput_row (by decide), zput_row (by decide)]; exact h36) (fun j e' hj hje => ?_)
        · exact h9
        by_cases hjk : j = k
        · subst hjk
          rw [he] at hje
          cases hje
          unfold EdK zput
          simp
          exact hv
        · have hK2 := hK j e' (by omega) hje
          unfold EdK at hK2 ⊢
          have hne : (j : Int) ≠ (k : Int) := by omega
          rw [zp_off2 hne, zp_off2 hne, zp_off2 hne, zp_off2 hne, zp_off2 hne, zp_off2 hne]
          simp only [zp_off2 hne]
          exact hK2
      refine r_iload_n rfl rfl ?_
      refine r_aload_n rfl rfl ?_
      refine r_getI rfl (so184 hS) ?_
      rw [e18]
      refine r_icmp_ge rfl (by unfold inI; omega) (by unfold inI; omega) (fun h12 => ?_) (fun h12 => ?_)
      · skip
        omega
      · skip
        refine r_aload_n rfl rfl ?_
        refine r_getR rfl (so184 hS) (sr184_37 hS) ?_
        refine r_iload_n rfl rfl ?_
        refine r_aload_n rfl rfl ?_
        refine r_getR rfl (so184 hS) (sr184_19 hS) ?_
        refine r_iload_n rfl rfl ?_
        refine r_iald rfl (sw196 hS) (by omega) (by omega) ?_
        rw [g1]
        refine r_iast rfl (sw206 hS) (by omega) (by omega) ?_
        refine r_aload_n rfl rfl ?_
        refine r_getR rfl (so184 hS) (sr184_38 hS) ?_
        refine r_iload_n rfl rfl ?_
        refine r_aload_n rfl rfl ?_
        refine r_getR rfl (so184 hS) (sr184_20 hS) ?_
        refine r_iload_n rfl rfl ?_
        refine r_iald rfl (sw197 hS) (by omega) (by omega) ?_
        rw [zput_row (show (197 : Nat) ≠ 206 by decide), g2]
        refine r_iast rfl (sw207 hS) (by omega) (by omega) ?_
        refine r_aload_n rfl rfl ?_
        refine r_getR rfl (so184 hS) (sr184_39 hS) ?_
        refine r_iload_n rfl rfl ?_
        refine r_aload_n rfl rfl ?_
        refine r_getR rfl (so184 hS) (sr184_21 hS) ?_
        refine r_iload_n rfl rfl ?_
        refine r_iald rfl (sw198 hS) (by omega) (by omega) ?_
        rw [zput_row (show (198 : Nat) ≠ 207 by decide), zput_row (show (198 : Nat) ≠ 206 by decide), g3]
        refine r_iast rfl (sw208 hS) (by omega) (by omega) ?_
        refine r_aload_n rfl rfl ?_
        refine r_getR rfl (so184 hS) (sr184_40 hS) ?_
        refine r_iload_n rfl rfl ?_
        refine r_aload_n rfl rfl ?_
        refine r_getR rfl (so184 hS) (sr184_22 hS) ?_
        refine r_iload_n rfl rfl ?_
        refine r_iald rfl (sw199 hS) (by omega) (by omega) ?_
        rw [zput_row (show (199 : Nat) ≠ 208 by decide), zput_row (show (199 : Nat) ≠ 207 by decide), zput_row (show (199 : Nat) ≠ 206 by decide), g4]
        refine r_iast rfl (sw209 hS) (by omega) (by omega) ?_
        refine r_aload_n rfl rfl ?_
        refine r_getR rfl (so184 hS) (sr184_41 hS) ?_
        refine r_iload_n rfl rfl ?_
        refine r_aload_n rfl rfl ?_
        refine r_getR rfl (so184 hS) (sr184_23 hS) ?_
        refine r_iload_n rfl rfl ?_
        refine r_iald rfl (sw200 hS) (by omega) (by omega) ?_
        rw [zput_row (show (200 : Nat) ≠ 209 by decide), zput_row (show (200 : Nat) ≠ 208 by decide), zput_row (show (200 : Nat) ≠ 207 by decide), zput_row (show (200 : Nat) ≠ 206 by decide), g5]
        refine r_iast rfl (sw210 hS) (by omega) (by omega) ?_
        refine r_aload_n rfl rfl ?_
        refine r_getR rfl (so184 hS) (sr184_42 hS) ?_
        refine r_iload_n rfl rfl ?_
        refine r_aload_n rfl rfl ?_
        refine r_iload_n rfl rfl ?_
        refine r_cV2 rfl (so184 hS) (Nat.le_of_ble_eq_true rfl) rfl rfl (x_kindOf hS (by omega) (by rw [zput_row (by decide), zput_row (by decide), zput_row (by decide), zput_row (by decide), zput_row (by decide)]; exact g6) (by rw [zput_row (by decide), zput_row (by decide), zput_row (by decide), zput_row (by decide), zput_row (by decide)]; exact g7) ?_)
        refine r_iconst rfl ?_
        refine r_icmp_ne rfl (by unfold inI; omega) (by unfold inI; omega) (fun h60 => ?_) (fun h60 => ?_)
        · skip
          refine r_iconst rfl ?_
          refine r_bast rfl (sw211 hS) (by omega) (by omega) (by first | exact Or.inl rfl | exact Or.inr rfl | assumption) ?_
          exact nx 0 (by rw [if_neg h60])
        · skip
          refine r_iconst rfl ?_
          refine r_goto rfl ?_
          refine r_bast rfl (sw211 hS) (by omega) (by omega) (by first | exact Or.inl rfl | exact Or.inr rfl | assumption) ?_
          exact nx 1 (by rw [if_pos h60])
  refine wp_in (C := c_M_keepEdges) (ls := [some (pR 184), some (pI f), none]) rfl rfl rfl rfl rfl ?_
  refine r_aload_n rfl rfl ?_
  refine r_iload_n rfl rfl ?_
  refine r_cV2 rfl (so184 hS) (Nat.le_of_ble_eq_true rfl) rfl rfl (x_findEdges hS hf hT hR hS2 hcap (fun z3 z4 f3 f4 hE => ?_))
  refine r_aload_n rfl rfl ?_
  refine r_aload_n rfl rfl ?_
  refine r_getI rfl (so184 hS) ?_
  have e18 := hE.1
  rw [e18]
  refine r_putI rfl (so184 hS) ?_
  refine r_iconst rfl ?_
  refine r_istore_n rfl (Nat.le_of_ble_eq_true rfl) ?_
  exact key z4 (frQL_E f4) (edL n I J V).length 0 (by omega) _ ⟨fun c a b => by rw [zput_row a]; exact (frQ_E f3).1 c a b, fun j a b c e g i => by rw [zput_off i]; exact (frQ_E f3).2 j a b c e g i⟩ (GH_fr (GH_E hE) (zput_off (by decide)) (fun c a b => zput_row (by omega))) zput_at (fun j e hj => by omega)
