/-! THE REFERENCE: the proof of a form -/
def edW (I J : Int → Int) (e : EE) (k : Int) : Int := if k = 0 then dirX I J e.1 e.2.1 else if k = 1 then dirY I J e.1 e.2.1 else if k = 2 then gc (I e.2.1 - I e.1) (J e.2.1 - J e.1) else knd e.2.2.1 e.2.2.2
/-- THE ROWS of a form -/
def prM (I J : Int → Int) (L : List EE) (s : KS) (k : Int) : Int := match L[(k / 4).toNat]? with
  | some e => edW I J e (k % 4)
  | none => prt (s.2.1 (k / 4 - (L.length : Int))) (s.2.2.1 (k / 4 - (L.length : Int))) (s.2.2.2.1 (k / 4 - (L.length : Int))) (s.2.2.2.2.1 (k / 4 - (L.length : Int))) (k % 4)
theorem prM_e {I J : Int → Int} {L : List EE} {s : KS} {i : Nat} {e : EE} {r : Int} (h : L[i]? = some e) (h0 : 0 ≤ r) (h1 : r < 4) : prM I J L s (4 * (i : Int) + r) = edW I J e r := by
  unfold prM
  rw [show (4 * (i : Int) + r) / 4 = (i : Int) by omega, show (4 * (i : Int) + r) % 4 = r by omega, Int.toNat_natCast, h]
theorem prM_c {I J : Int → Int} {L : List EE} {s : KS} {c r : Int} (hc : 0 ≤ c) (h0 : 0 ≤ r) (h1 : r < 4) : prM I J L s (4 * ((L.length : Int) + c) + r) = prt (s.2.1 c) (s.2.2.1 c) (s.2.2.2.1 c) (s.2.2.2.2.1 c) r := by
  unfold prM
  rw [show (4 * ((L.length : Int) + c) + r) / 4 = (L.length : Int) + c by omega, show (4 * ((L.length : Int) + c) + r) % 4 = r by omega, List.getElem?_eq_none (by omega)]
  show prt (s.2.1 ((L.length : Int) + c - (L.length : Int))) _ _ _ r = _
  rw [show (L.length : Int) + c - (L.length : Int) = c by omega]
def frPL (z' z : ZM) : Prop := (∀ c, c ≠ 184 → c ≠ 203 → c ≠ 204 → c ≠ 215 → z' c = z c) ∧ ∀ k, (k < 29 ∨ 32 < k) → z' 184 k = z 184 k
set_option maxHeartbeats 4000000 in
theorem x_prove {X : PX} {d : Nat} {S : SS} {zI zL : ZM} {Q : PQ} (hS : Sk S) {f n : Int} {I J V : Int → Int} (hf : 0 ≤ f ∧ f ≤ 10) (hT : FM zI f n I J V) (hR : FR n I J V) (hS2 : FS n I J) (hcap : (edL n I J V).length ≤ 700) (hQ : ∀ z z2, frK z zI → frPL z2 zL → (∀ k, 0 ≤ k → k < 4 * ((edL n I J V).length + (crL n I J V).1) → z2 215 k = prM I J (edL n I J V) (crL n I J V) k) → Q (some (pI (4 * ((edL n I J V).length + (crL n I J V).1)))) S z z2) : wpM X (d + 6) fM_prove [pR 184, pI f] S zI zL Q := by
  have hok := edL_ok (I := I) (J := J) (V := V) hR.1
  have cm := crL_m n I J V
  have main : ∀ (z z2 : ZM), frK z zI → frKL z2 zL → EH z z2 f I J V (edL n I J V) → CrH z z2 (crL n I J V) → CrR (crL n I J V) → Run X (d + 5) c_M_prove 3 [some (pR 184), some (pI f), none, none] [] S z z2 0 0 Q := by
    intro z z2 hz hz2 hE hC hCR
    have e18 := hE.1
    have e33 := hC.1
    have m0 : 0 ≤ (crL n I J V).1 := hCR.1
    obtain ⟨m, hm⟩ : ∃ m, m = (crL n I J V).1 := ⟨_, rfl⟩
    rw [← hm] at e33 m0 cm hQ
    have sec : ∀ j : Int, j ≤ 4 * m → 0 ≤ j → ∀ (z3 : ZM) (u : Int), u = 4 * (edL n I J V).length + j → (∀ c, c ≠ 215 → z3 c = z2 c) → (∀ k, 0 ≤ k → k < 4 * (edL n I J V).length + j → z3 215 k = prM I J (edL n I J V) (crL n I J V) k) → Run X (d + 5) c_M_prove 57 [some (pR 184), some (pI f), some (pI u), some (pI j)] [] S z z3 0 0 Q := by
      refine loop_up _ (4 * m) (fun j hj ih j0 z3 u hu hz3 hpr => ?_)
      refine r_iload_n rfl rfl ?_
      refine r_iconst rfl ?_
      refine r_aload_n rfl rfl ?_
      refine r_getI rfl (so184 hS) ?_
      rw [e33]
      refine r_imul rfl ?_
      refine r_icmp_ge rfl (by unfold inI; omega) (by unfold inI; omega) (fun h62 => ?_) (fun h62 => ?_)
      · skip
        refine r_iload_n rfl rfl ?_
        refine r_iret rfl ?_
        rw [show u = 4 * (((edL n I J V).length : Int) + m) by omega]
        exact hQ z z3 hz ⟨fun c a b c2 d2 => (hz3 c d2).trans (hz2.1 c a b c2), fun k hk => by rw [hz3 184 (by decide)]; exact hz2.2 k hk⟩ (fun k k0 k1 => hpr k k0 (by omega))
      · skip
        refine r_aload_n rfl rfl ?_
        refine r_getR rfl (so184 hS) (sr184_47 hS) ?_
        refine r_iload_n rfl rfl ?_
        refine r_aload_n rfl rfl ?_
        refine r_getR rfl (so184 hS) (sr184_34 hS) ?_
        refine r_iload_n rfl rfl ?_
        have hc4 : 0 ≤ j / 4 ∧ j / 4 < m := by omega
        obtain ⟨⟨c1, c2, c3, c4⟩, -⟩ := hC.2 (j / 4) hc4.1 (by rw [← hm]; exact hc4.2)
        have hval : z3 204 j = prM I J (edL n I J V) (crL n I J V) u := by
          rw [hz3 204 (by decide), hu, show 4 * ((edL n I J V).length : Int) + j = 4 * (((edL n I J V).length : Int) + j / 4) + j % 4 by omega, prM_c hc4.1 (by omega) (by omega)]
          unfold prt
          rcases (show j % 4 = 0 ∨ j % 4 = 1 ∨ j % 4 = 2 ∨ j % 4 = 3 by omega) with q | q | q | q
          · rw [if_pos q, ← c1]; rw [show 4 * (j / 4) = j by omega]
          · rw [if_neg (by omega), if_pos q, ← c2]; rw [show 4 * (j / 4) + 1 = j by omega]
          · rw [if_neg (by omega), if_neg (by omega), if_pos q, ← c3]; rw [show 4 * (j / 4) + 2 = j by omega]
          · rw [if_neg (by omega), if_neg (by omega), if_neg (by omega), ← c4]; rw [show 4 * (j / 4) + 3 = j by omega]
        refine r_lald rfl (sw204 hS) (by omega) (by omega) ?_
        rw [hval]
        refine r_last rfl (sw215 hS) (by omega) (by omega) ?_
        refine r_iinc rfl rfl ?_
        refine r_iinc rfl rfl ?_
        refine r_goto rfl ?_
        refine ih (by omega) (by omega) _ _ (by omega) (fun c hc => by rw [zput_row hc]; exact hz3 c hc) (fun k k0 k1 => ?_)
        by_cases e : k = u
        · subst e; rw [zput_at]
        · rw [zput_off e]; exact hpr k k0 (by omega)
    have fst : ∀ (r i : Nat), i + r = (edL n I J V).length → ∀ (z3 : ZM) (u : Int), u = 4 * (i : Int) → (∀ c, c ≠ 215 → z3 c = z2 c) → (∀ k, 0 ≤ k → k < 4 * (i : Int) → z3 215 k = prM I J (edL n I J V) (crL n I J V) k) → Run X (d + 5) c_M_prove 7 [some (pR 184), some (pI f), some (pI u), some (pI (i : Int))] [] S z z3 0 0 Q := by
      intro r
      induction r with
      | zero =>
        intro i hi z3 u hu hz3 hpr
        refine r_iload_n rfl rfl ?_
        refine r_aload_n rfl rfl ?_
        refine r_getI rfl (so184 hS) ?_
        rw [e18]
        refine r_icmp_ge rfl (by unfold inI; omega) (by unfold inI; omega) (fun h10 => ?_) (fun h10 => ?_)
        · skip
          refine r_iconst rfl ?_
          refine r_istore_n rfl (Nat.le_of_ble_eq_true rfl) ?_
          exact sec 0 (by omega) (Int.le_refl _) z3 u (by omega) hz3 (fun k k0 k1 => hpr k k0 (by omega))
        · skip
          omega
      | succ r ih =>
        intro i hi z3 u hu hz3 hpr
        have hil : i < (edL n I J V).length := by omega
        obtain ⟨e, he⟩ : ∃ e, (edL n I J V)[i]? = some e := ⟨_, List.getElem?_eq_getElem hil⟩
        obtain ⟨⟨-, -, g3, g4, g5, g6, g7⟩, -, -⟩ := hE.2 i e he
        obtain ⟨o1, o2, o3, -⟩ := hok e (List.mem_of_getElem? he)
        have ae : 0 ≤ e.1 ∧ e.1 < n := ⟨o1, Int.lt_trans o2 o3⟩
        have be : 0 ≤ e.2.1 ∧ e.2.1 < n := ⟨Int.le_of_lt (Int.lt_of_le_of_lt o1 o2), o3⟩
        obtain ⟨a1, a2, -⟩ := dif_b hR ae be
        have hab : I e.2.1 ≠ I e.1 ∨ J e.2.1 ≠ J e.1 := by have := hS2 e.1 e.2.1 o1 o2 o3; unfold lexlt at this; omega
        obtain ⟨d1, d2⟩ := dir_b (I := I) (J := J) hab a1 a2
        have gb := gc_b (a := I e.2.1 - I e.1) (b := J e.2.1 - J e.1) (B := 8) a1 a2 (by decide)
        have kb := knd_b e.2.2.1 e.2.2.2
        clear a1 a2 hab
        refine r_iload_n rfl rfl ?_
        refine r_aload_n rfl rfl ?_
        refine r_getI rfl (so184 hS) ?_
        rw [e18]
        refine r_icmp_ge rfl (by unfold inI; omega) (by unfold inI; omega) (fun h10 => ?_) (fun h10 => ?_)
        · skip
          omega
        · skip
          refine r_aload_n rfl rfl ?_
          refine r_getR rfl (so184 hS) (sr184_47 hS) ?_
          refine r_iload_n rfl rfl ?_
          refine r_aload_n rfl rfl ?_
          refine r_getR rfl (so184 hS) (sr184_21 hS) ?_
          refine r_iload_n rfl rfl ?_
          refine r_iald rfl (sw198 hS) (by omega) (by omega) ?_
          rw [g3]
          refine r_i2l rfl (by unfold inI; omega) ?_
          refine r_last rfl (sw215 hS) (by omega) (by omega) ?_
          refine r_aload_n rfl rfl ?_
          refine r_getR rfl (so184 hS) (sr184_47 hS) ?_
          refine r_iload_n rfl rfl ?_
          refine r_iconst rfl ?_
          refine r_iadd rfl ?_
          refine r_aload_n rfl rfl ?_
          refine r_getR rfl (so184 hS) (sr184_22 hS) ?_
          refine r_iload_n rfl rfl ?_
          refine r_iald rfl (sw199 hS) (by omega) (by omega) ?_
          rw [g4]
          refine r_i2l rfl (by unfold inI; omega) ?_
          refine r_last rfl (sw215 hS) (by omega) (by omega) ?_
          refine r_aload_n rfl rfl ?_
          refine r_getR rfl (so184 hS) (sr184_47 hS) ?_
          refine r_iload_n rfl rfl ?_
          refine r_iconst rfl ?_
          refine r_iadd rfl ?_
          refine r_aload_n rfl rfl ?_
          refine r_getR rfl (so184 hS) (sr184_23 hS) ?_
          refine r_iload_n rfl rfl ?_
          refine r_iald rfl (sw200 hS) (by omega) (by omega) ?_
          rw [g5]
          refine r_i2l rfl (by unfold inI; omega) ?_
          refine r_last rfl (sw215 hS) (by omega) (by omega) ?_
          refine r_aload_n rfl rfl ?_
          refine r_getR rfl (so184 hS) (sr184_47 hS) ?_
          refine r_iload_n rfl rfl ?_
          refine r_iconst rfl ?_
          refine r_iadd rfl ?_
          refine r_aload_n rfl rfl ?_
          refine r_iload_n rfl rfl ?_
          refine r_cV2 rfl (so184 hS) (Nat.le_of_ble_eq_true rfl) rfl rfl (x_kindOf hS (by omega) g6 g7 ?_)
          refine r_i2l rfl (by unfold inI; omega) ?_
          refine r_last rfl (sw215 hS) (by omega) (by omega) ?_
          refine r_iinc rfl rfl ?_
          refine r_iinc rfl rfl ?_
          refine r_goto rfl ?_
          have h7 := ih (i + 1) (by omega) (zput (zput (zput (zput z3 215 u (dirX I J e.1 e.2.1)) 215 (u + 1) (dirY I J e.1 e.2.1)) 215 (u + 2) (gc (I e.2.1 - I e.1) (J e.2.1 - J e.1))) 215 (u + 3) (knd e.2.2.1 e.2.2.2)) (u + 4) (by omega) (fun c hc => by rw [zput_row hc, zput_row hc, zput_row hc, zput_row hc]; exact hz3 c hc) (fun k k0 k1 => ?_)
          · exact h7
          rcases (show k < 4 * (i : Int) ∨ k = u ∨ k = u + 1 ∨ k = u + 2 ∨ k = u + 3 by omega) with q | q | q | q | q
          · rw [zput_off (by omega), zput_off (by omega), zput_off (by omega), zput_off (by omega)]; exact hpr k k0 q
          · rw [zput_off (by omega), zput_off (by omega), zput_off (by omega), q, zput_at, hu, show 4 * (i : Int) = 4 * (i : Int) + 0 by omega, prM_e he (by decide) (by decide)]; rfl
          · rw [zput_off (by omega), zput_off (by omega), q, zput_at, hu, prM_e he (by decide) (by decide)]; rfl
          · rw [zput_off (by omega), q, zput_at, hu, prM_e he (by decide) (by decide)]; rfl
          · rw [q, zput_at, hu, prM_e he (by decide) (by decide)]; rfl
    refine r_iconst rfl ?_
    refine r_istore_n rfl (Nat.le_of_ble_eq_true rfl) ?_
    refine r_iconst rfl ?_
    refine r_istore_n rfl (Nat.le_of_ble_eq_true rfl) ?_
    exact fst (edL n I J V).length 0 (by omega) z2 0 (by omega) (fun _ _ => rfl) (fun k k0 k1 => by omega)
  refine wp_in (C := c_M_prove) (ls := [some (pR 184), some (pI f), none, none]) rfl rfl rfl rfl rfl ?_
  refine r_aload_n rfl rfl ?_
  refine r_iload_n rfl rfl ?_
  refine r_cV2 rfl (so184 hS) (Nat.le_of_ble_eq_true rfl) rfl rfl (x_findCorners hS hf hT hR hS2 hcap (fun z3 z4 f3 f4 hE hC hCR => ?_))
  exact main z3 z4 f3 f4 hE hC hCR
