/-! THE REFERENCE: THE MEETS of two forms -/
theorem crFold_m {I J V : Int → Int} : ∀ (L : List EE) (s : KS), (L.foldl (crE I J V) s).1 ≤ s.1 + 2 * (L.length : Int)
  | [], s => by simp
  | e :: r, s => by
    have h1 := crFold_m (I := I) (J := J) (V := V) r (crE I J V s e)
    have h2 := crE_m (I := I) (J := J) (V := V) (s := s) (e := e)
    rw [List.foldl_cons, List.length_cons]
    omega
theorem crL_m (n : Int) (I J V : Int → Int) : (crL n I J V).1 ≤ 2 * ((edL n I J V).length : Int) := by
  have := crFold_m (I := I) (J := J) (V := V) (edL n I J V) k00
  have h0 : k00.1 = 0 := rfl
  unfold crL
  omega
def frW (z' z : ZM) : Prop := (∀ c, c ≠ 184 → (c < 194 ∨ 213 < c) → z' c = z c) ∧ ∀ k, k ≠ 17 → k ≠ 18 → k ≠ 27 → k ≠ 28 → k ≠ 33 → k ≠ 36 → k ≠ 43 → z' 184 k = z 184 k
theorem frW_Q {z z2 z3 : ZM} (h1 : frW z2 z) (h2 : frQ z3 z2) : frW z3 z := ⟨fun c a b => (h2.1 c a (by omega)).trans (h1.1 c a b), fun k a b c e g i j => (h2.2 k a b c e g i).trans (h1.2 k a b c e g i j)⟩
theorem frW_M {z z2 z3 : ZM} (h1 : frW z2 z) (h2 : frM z3 z2) : frW z3 z := ⟨fun c a b => (h2.1 c a (by omega)).trans (h1.1 c a b), fun k a b c e g i j => (h2.2 k j).trans (h1.2 k a b c e g i j)⟩
theorem FM_frW {z z' : ZM} {g n : Int} {I J V : Int → Int} (h : FM z g n I J V) (hz : frW z' z) : FM z' g n I J V := FM_fr h (fun c k0 k1 => hz.1 c (by omega) (by omega))
theorem KH_M {z z' : ZM} {f : Int} {I J : Int → Int} {L : List EE} (h : KH z f I J L) (hz : frM z' z) : KH z' f I J L := KH_fr h (hz.2 36 (by decide)) (fun c a b => hz.1 c (by omega) (by omega))
theorem GH_M {z z' : ZM} {f : Int} {I J : Int → Int} {L : List EE} (h : GH z f I J L) (hz : frM z' z) : GH z' f I J L := GH_fr h (hz.2 18 (by decide)) (fun c a b => hz.1 c (by omega) (by omega))
theorem wqO_i {I J V : Int → Int} {I2 J2 V2 : Int → Int} {e o : EE} {x : Int} (h : x = 0 ∨ x = 1) : wqO I J V I2 J2 V2 e x o = 0 ∨ wqO I J V I2 J2 V2 e x o = 1 := by
  by_cases k : badP I J V I2 J2 V2 e o
  · rw [wqO_1 k]; exact Or.inl rfl
  · rw [wqO_0 k]; exact h
theorem drop_at {α : Type} {L : List α} {k : Nat} {e : α} (h : L[k]? = some e) : L.drop k = e :: L.drop (k + 1) := by
  have hk := (List.getElem?_eq_some_iff.mp h).1
  rw [List.drop_eq_getElem_cons hk]
  rw [List.getElem?_eq_getElem hk] at h
  rw [Option.some.inj h]
theorem cls_b (n : Int) (I J V : Int → Int) (n2 : Int) (I2 J2 V2 : Int → Int) : clS n I J V n2 I2 J2 V2 = 0 ∨ clS n I J V n2 I2 J2 V2 = 1 := tchS_b _ _ _ _ _ _ _ _ _
set_option maxHeartbeats 4000000 in
theorem x_findMeets {X : PX} {d : Nat} {S : SS} {zI zL : ZM} {Q : PQ} (hS : Sk S) {f n : Int} {I J V : Int → Int} (hf : 0 ≤ f ∧ f ≤ 10) (hT : FM zI f n I J V) (hR : FR n I J V) (hSa : FS n I J) {f2 n2 : Int} {I2 J2 V2 : Int → Int} (hf2 : 0 ≤ f2 ∧ f2 ≤ 10) (hT2 : FM zI f2 n2 I2 J2 V2) (hR2 : FR n2 I2 J2 V2) (hSb : FS n2 I2 J2) (hcap : (edL n I J V).length ≤ 700) (hcap2 : (edL n2 I2 J2 V2).length ≤ 700) (hc8 : clS n I J V n2 I2 J2 V2 = 0 → clS n2 I2 J2 V2 n I J V = 0 → (meetsM n I J V n2 I2 J2 V2 (edL n I J V) (edL n2 I2 J2 V2)).1 ≤ 800)
    (hQ0 : (clS n I J V n2 I2 J2 V2 = 1 ∨ clS n2 I2 J2 V2 n I J V = 1) → ∀ z z2, frW z zI → frQL z2 zL → Q (some (pI 0)) S z z2)
    (hQ1 : clS n I J V n2 I2 J2 V2 = 0 → clS n2 I2 J2 V2 n I J V = 0 → ∀ z z2, frW z zI → frQL z2 zL → MM z z2 (meetsM n I J V n2 I2 J2 V2 (edL n I J V) (edL n2 I2 J2 V2)) → MMR (meetsM n I J V n2 I2 J2 V2 (edL n I J V) (edL n2 I2 J2 V2)) → Q (some (pI (wellM I J V I2 J2 V2 (edL n I J V) (edL n2 I2 J2 V2)))) S z z2) : wpM X (d + 7) fM_findMeets [pR 184, pI f, pI f2] S zI zL Q := by
  have hok := edL_ok (I := I) (J := J) (V := V) hR.1
  have hok2 := edL_ok (I := I2) (J := J2) (V := V2) hR2.1
  have cb1 := cls_b n I J V n2 I2 J2 V2
  have cb2 := cls_b n2 I2 J2 V2 n I J V
  have cm1 := crL_m n I J V
  have cm2 := crL_m n2 I2 J2 V2
  have wi : clS n I J V n2 I2 J2 V2 = 0 → clS n2 I2 J2 V2 n I J V = 0 → ∀ (r i : Nat), i + r = (edL n I J V).length → ∀ (z z2 : ZM) (ms : MTS) (x : Int) (y5 y6 : Option PV), frW z zI → frQL z2 zL → KH z f I J (edL n I J V) → GH z f2 I2 J2 (edL n2 I2 J2 V2) → MM z z2 ms → MMR ms → (x = 0 ∨ x = 1) →  ((edL n I J V).drop i).foldl (mmE n I J V n2 I2 J2 V2 (edL n2 I2 J2 V2)) ms = meetsM n I J V n2 I2 J2 V2 (edL n I J V) (edL n2 I2 J2 V2) → ((edL n I J V).drop i).foldl (wqE I J V I2 J2 V2 (edL n2 I2 J2 V2)) x = wellM I J V I2 J2 V2 (edL n I J V) (edL n2 I2 J2 V2) → Run X (d + 6) c_M_findMeets 25 [some (pR 184), some (pI f), some (pI f2), some (pI x), some (pI (i : Int)), y5, y6] [] S z z2 0 0 Q := by
    intro hc1 hc2 r
    have hc8' := hc8 hc1 hc2
    induction r with
    | zero =>
      intro i hi z z2 ms x y5 y6 hz hz2 hK hG hM hMR hx hms hwl
      have e36 := hK.1
      refine r_iload rfl rfl ?_
      refine r_aload_n rfl rfl ?_
      refine r_getI rfl (so184 hS) ?_
      rw [e36]
      refine r_icmp_ge rfl (by unfold inI; omega) (by unfold inI; omega) (fun h28 => ?_) (fun h28 => ?_)
      · skip
        refine r_iload_n rfl rfl ?_
        refine r_zret rfl hx ?_
        rw [List.drop_eq_nil_of_le (by omega)] at hms hwl
        replace hms : ms = _ := hms
        replace hwl : x = _ := hwl
        rw [hms] at hM hMR
        rw [hwl]
        exact hQ1 hc1 hc2 z z2 hz hz2 hM hMR
      · skip
        omega
    | succ r ih =>
      intro i hi z z2 ms x y5 y6 hz hz2 hK hG hM hMR hx hms hwl
      have e36 := hK.1
      have hil : i < (edL n I J V).length := by omega
      obtain ⟨e, he⟩ : ∃ e, (edL n I J V)[i]? = some e := ⟨_, List.getElem?_eq_getElem hil⟩
      rw [drop_at he, List.foldl_cons] at hms hwl
      have inner : ∀ (r2 j : Nat), j + r2 = (edL n2 I2 J2 V2).length → ∀ (z z2 : ZM) (ms : MTS) (x : Int) (y6 : Option PV), frW z zI → frQL z2 zL → KH z f I J (edL n I J V) → GH z f2 I2 J2 (edL n2 I2 J2 V2) → MM z z2 ms → MMR ms → (x = 0 ∨ x = 1) →  ((edL n I J V).drop (i + 1)).foldl (mmE n I J V n2 I2 J2 V2 (edL n2 I2 J2 V2)) (((edL n2 I2 J2 V2).drop j).foldl (mmO n I J V n2 I2 J2 V2 e) ms) = meetsM n I J V n2 I2 J2 V2 (edL n I J V) (edL n2 I2 J2 V2) → ((edL n I J V).drop (i + 1)).foldl (wqE I J V I2 J2 V2 (edL n2 I2 J2 V2)) (((edL n2 I2 J2 V2).drop j).foldl (wqO I J V I2 J2 V2 e) x) = wellM I J V I2 J2 V2 (edL n I J V) (edL n2 I2 J2 V2) → Run X (d + 6) c_M_findMeets 31 [some (pR 184), some (pI f), some (pI f2), some (pI x), some (pI (i : Int)), some (pI (j : Int)), y6] [] S z z2 0 0 Q := by
        intro r2
        induction r2 with
        | zero =>
          intro j hj z z2 ms x y6 hz hz2 hK hG hM hMR hx hms hwl
          have e18 := hG.1
          rw [List.drop_eq_nil_of_le (by omega)] at hms hwl
          refine r_iload rfl rfl ?_
          refine r_aload_n rfl rfl ?_
          refine r_getI rfl (so184 hS) ?_
          rw [e18]
          refine r_icmp_ge rfl (by unfold inI; omega) (by unfold inI; omega) (fun h34 => ?_) (fun h34 => ?_)
          · skip
            refine r_iinc rfl rfl ?_
            refine r_goto rfl ?_
            exact ih (i + 1) (by omega) z z2 ms x _ _ hz hz2 hK hG hM hMR hx hms hwl
          · skip
            omega
        | succ r2 ihj =>
          intro j hj z z2 ms x y6 hz hz2 hK hG hM hMR hx hms hwl
          have e18 := hG.1
          have hjl : j < (edL n2 I2 J2 V2).length := by omega
          obtain ⟨o, ho⟩ : ∃ o, (edL n2 I2 J2 V2)[j]? = some o := ⟨_, List.getElem?_eq_getElem hjl⟩
          rw [drop_at ho, List.foldl_cons] at hms hwl
          have hcap1 : (mmO n I J V n2 I2 J2 V2 e ms o).1 ≤ 800 := by
            have k1 := mmG_len (n := n) (I := I) (J := J) (V := V) (n2 := n2) (I2 := I2) (J2 := J2) (V2 := V2) (Lb := edL n2 I2 J2 V2) ((edL n I J V).drop (i + 1)) (((edL n2 I2 J2 V2).drop (j + 1)).foldl (mmO n I J V n2 I2 J2 V2 e) (mmO n I J V n2 I2 J2 V2 e ms o))
            rw [hms] at k1
            have k2 := mmF_len (n := n) (I := I) (J := J) (V := V) (n2 := n2) (I2 := I2) (J2 := J2) (V2 := V2) (e := e) ((edL n2 I2 J2 V2).drop (j + 1)) (mmO n I J V n2 I2 J2 V2 e ms o)
            omega
          have one : Run X (d + 6) c_M_findMeets 35 [some (pR 184), some (pI f), some (pI f2), some (pI x), some (pI (i : Int)), some (pI (j : Int)), y6] [] S z z2 0 0 Q := by
            refine v_meet1 (d := d + 1) hS hf (FM_frW hT hz) hR hSa hf2 (FM_frW hT2 hz) hR2 hSb hK hG he ho hcap hcap2 (hok e (List.mem_of_getElem? he)) (hok2 o (List.mem_of_getElem? ho)) hx hM hMR hcap1 (fun z3 z4 y6 f3 f4 hM3 hMR3 => ?_)
            refine r_iinc rfl rfl ?_
            refine r_goto rfl ?_
            have h31 := ihj (j + 1) (by omega) z3 z4 _ _ y6 (frW_M hz f3) (frQL_t hz2 f4) (KH_M hK f3) (GH_M hG f3) hM3 hMR3 (wqO_i hx) hms hwl
            exact h31
          refine r_iload rfl rfl ?_
          refine r_aload_n rfl rfl ?_
          refine r_getI rfl (so184 hS) ?_
          rw [e18]
          refine r_icmp_ge rfl (by unfold inI; omega) (by unfold inI; omega) (fun h34 => ?_) (fun h34 => ?_)
          · skip
            omega
          · skip
            exact one
      refine r_iload rfl rfl ?_
      refine r_aload_n rfl rfl ?_
      refine r_getI rfl (so184 hS) ?_
      rw [e36]
      refine r_icmp_ge rfl (by unfold inI; omega) (by unfold inI; omega) (fun h28 => ?_) (fun h28 => ?_)
      · skip
        omega
      · skip
        refine r_iconst rfl ?_
        refine r_istore rfl (Nat.le_of_ble_eq_true rfl) ?_
        exact inner (edL n2 I2 J2 V2).length 0 (by omega) z z2 ms x _ hz hz2 hK hG hM hMR hx (by rw [List.drop_zero]; exact hms) (by rw [List.drop_zero]; exact hwl)
  refine wp_in (C := c_M_findMeets) (ls := [some (pR 184), some (pI f), some (pI f2), none, none, none, none]) rfl rfl rfl rfl rfl ?_
  refine r_aload_n rfl rfl ?_
  refine r_iconst rfl ?_
  refine r_putI rfl (so184 hS) ?_
  have z0 : zput zI 184 43 0 184 43 = 0 := zput_at
  have w0 : frW (zput zI 184 43 0) zI := ⟨fun c a b => zput_row a, fun k a b c e g i j => zput_off j⟩
  have T0 := FM_frW hT w0
  have T20 := FM_frW hT2 w0
  obtain ⟨zA, hzA⟩ : ∃ zA, zA = zput zI 184 43 0 := ⟨_, rfl⟩
  rw [← hzA] at z0 w0 T0 T20
  rw [← hzA]
  refine r_aload_n rfl rfl ?_
  refine r_iload_n rfl rfl ?_
  refine r_iload_n rfl rfl ?_
  refine r_cV3 rfl (so184 hS) (Nat.le_of_ble_eq_true rfl) rfl rfl (x_isClear hS hf T0 hR hf2 T20 hR2 hSa hcap (by omega) (fun z3 z4 f3 f4 => ?_))
  refine r_if_eq rfl (by unfold inI; omega) (fun h7 => ?_) (fun h7 => ?_)
  · skip
    refine r_iconst rfl ?_
    refine r_zret rfl (by first | exact Or.inl rfl | exact Or.inr rfl | assumption) ?_
    exact hQ0 (Or.inl (by omega)) z3 z4 (frW_Q w0 f3) f4
  · skip
    refine r_aload_n rfl rfl ?_
    refine r_iload_n rfl rfl ?_
    refine r_iload_n rfl rfl ?_
    refine r_cV3 rfl (so184 hS) (Nat.le_of_ble_eq_true rfl) rfl rfl (x_isClear hS hf2 (FM_frQ T20 f3) hR2 hf (FM_frQ T0 f3) hR hSb hcap2 (by omega) (fun z5 z6 f5 f6 => ?_))
    refine r_if_ne rfl (by unfold inI; omega) (fun h12 => ?_) (fun h12 => ?_)
    · skip
      refine r_aload_n rfl rfl ?_
      refine r_iload_n rfl rfl ?_
      refine r_cV2 rfl (so184 hS) (Nat.le_of_ble_eq_true rfl) rfl rfl (x_keepEdges (d := d + 1) hS hf (FM_frQ (FM_frQ T0 f3) f5) hR hSa (by omega) (fun z7 z8 f7 f8 hK7 => ?_))
      refine r_aload_n rfl rfl ?_
      refine r_iload_n rfl rfl ?_
      refine r_cV2 rfl (so184 hS) (Nat.le_of_ble_eq_true rfl) rfl rfl (x_findEdges (d := d + 2) hS hf2 (FM_frQ (FM_frQ (FM_frQ T20 f3) f5) f7) hR2 hSb (by omega) (fun z9 z10 f9 f10 hE => ?_))
      refine r_iconst rfl ?_
      refine r_istore_n rfl (Nat.le_of_ble_eq_true rfl) ?_
      refine r_iconst rfl ?_
      refine r_istore rfl (Nat.le_of_ble_eq_true rfl) ?_
      have hc1 : clS n I J V n2 I2 J2 V2 = 0 := by omega
      have hc2 : clS n2 I2 J2 V2 n I J V = 0 := by omega
      have fz : frW z9 zI := frW_Q (frW_Q (frW_Q (frW_Q w0 f3) f5) f7) (frQ_E f9)
      have e43 : z9 184 43 = 0 := by rw [f9.2 43 (by decide) (by decide) (by decide), f7.2 43 (by decide) (by decide) (by decide) (by decide) (by decide) (by decide), f5.2 43 (by decide) (by decide) (by decide) (by decide) (by decide) (by decide), f3.2 43 (by decide) (by decide) (by decide) (by decide) (by decide) (by decide)]; exact z0
      exact wi hc1 hc2 (edL n I J V).length 0 (by omega) z9 z10 m00 1 _ _ fz (frQL_t (frQL_t (frQL_t f4 f6) f8) (frQL_E f10)) (KH_fr hK7 (f9.2 36 (by decide) (by decide) (by decide)) (fun c a b => f9.1 c (by omega) (by omega))) (GH_E hE) ⟨e43, fun t t0 t1 => absurd t1 (by show ¬ t < 0; omega)⟩ ⟨Int.le_refl _, fun t t0 t1 => absurd t1 (by show ¬ t < 0; omega)⟩ (Or.inr rfl) (by rw [List.drop_zero]; rfl) (by rw [List.drop_zero]; rfl)
    · skip
      refine r_iconst rfl ?_
      refine r_zret rfl (by first | exact Or.inl rfl | exact Or.inr rfl | assumption) ?_
      exact hQ0 (Or.inr (by omega)) z5 z6 (frW_Q (frW_Q w0 f3) f5) (frQL_t f4 f6)
