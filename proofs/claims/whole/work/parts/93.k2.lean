/-! THE CONSTRUCTORS: curve, crossing, the class -/
abbrev RR : Type := Nat → Int → Option Nat
def cvF (r : RR) (o f q : Nat) : RR := rput (rput (rput (rput (rput (rput (rput (rput (rput (rput (rput (rrow (rput (rrow (r) (q)) (o) 2 (some (q))) (q + 1)) (q + 1) 0 (some (q + 2))) (q + 1) 1 (some (q + 3))) (q + 1) 2 (some (q + 4))) (q + 1) 3 (some (q + 5))) (o) 3 (some (q + 1))) (o) 4 (some (q + 6))) (o) 5 (some (q + 7))) (o) 6 (some (q + 8))) (o) 7 (some (q + 9))) (o) 0 (some (f))) (o) 1 (some (5))
def crF2 (r : RR) (o q : Nat) : RR := rput (rrow (rput (rrow (rput (rrow (rput (rput (rput (rput (rput (rput (rrow (r) (q)) (q) 0 (some (q + 1))) (q) 1 (some (q + 2))) (q) 2 (some (q + 3))) (q) 3 (some (q + 4))) (o) 0 (some (q))) (o) 1 (some (q + 5))) (q + 6)) (o) 2 (some (q + 6))) (q + 7)) (o) 3 (some (q + 7))) (q + 8)) (o) 4 (some (q + 8))
theorem cvF_n {r : RR} {o f q : Nat} (hoq : o < q) : (cvF r o f q o 0 = some f ∧ cvF r o f q o 1 = some 5 ∧ cvF r o f q o 2 = some q ∧ cvF r o f q o 3 = some (q + 1)) ∧ (cvF r o f q (q + 1) 0 = some (q + 2) ∧ cvF r o f q (q + 1) 1 = some (q + 3) ∧ cvF r o f q (q + 1) 2 = some (q + 4) ∧ cvF r o f q (q + 1) 3 = some (q + 5)) ∧ cvF r o f q o 4 = some (q + 6) ∧ cvF r o f q o 5 = some (q + 7) ∧ cvF r o f q o 6 = some (q + 8) ∧ cvF r o f q o 7 = some (q + 9) := by
  unfold cvF
  simp (disch := omega) only [rput_a, rput_o, rrow_o, and_self, true_and]
theorem cvF_k {r : RR} {o f q c : Nat} {k : Int} (h : c < q) (h2 : c ≠ o) : cvF r o f q c k = r c k := by
  unfold cvF
  simp (disch := omega) only [rput_a, rput_o, rrow_o]
theorem crF2_n {r : RR} {o q : Nat} (hoq : o < q) : (crF2 r o q o 0 = some q ∧ crF2 r o q o 1 = some (q + 5) ∧ crF2 r o q o 2 = some (q + 6) ∧ crF2 r o q o 3 = some (q + 7) ∧ crF2 r o q o 4 = some (q + 8)) ∧ crF2 r o q q 0 = some (q + 1) ∧ crF2 r o q q 1 = some (q + 2) ∧ crF2 r o q q 2 = some (q + 3) ∧ crF2 r o q q 3 = some (q + 4) := by
  unfold crF2
  simp (disch := omega) only [rput_a, rput_o, rrow_o, and_self, true_and]
theorem crF2_k {r : RR} {o q c : Nat} {k : Int} (h : c < q) (h2 : c ≠ o) : crF2 r o q c k = r c k := by
  unfold crF2
  simp (disch := omega) only [rput_a, rput_o, rrow_o]
set_option maxHeartbeats 1000000 in
theorem k_Curve {X : PX} {d : Nat} {S : SS} {zI zL : ZM} {Q : PQ} {o f q : Nat} (ho : ob S o 1) (hoq : o < q) (hl : S.1.length = q) (hq : q + 40 < 10000) (hQ : ∀ (S' : SS) (z z2 : ZM), S'.1 = S.1 ++ [(4, 0), (5, 0), (13, 75), (13, 75), (13, 75), (13, 75), (12, 114), (12, 114), (12, 114), (12, 114)] → ((S'.2 o 0 = some f ∧ S'.2 o 1 = some 5 ∧ S'.2 o 2 = some q ∧ S'.2 o 3 = some (q + 1)) ∧ (S'.2 (q + 1) 0 = some (q + 2) ∧ S'.2 (q + 1) 1 = some (q + 3) ∧ S'.2 (q + 1) 2 = some (q + 4) ∧ S'.2 (q + 1) 3 = some (q + 5)) ∧ S'.2 o 4 = some (q + 6) ∧ S'.2 o 5 = some (q + 7) ∧ S'.2 o 6 = some (q + 8) ∧ S'.2 o 7 = some (q + 9)) → (∀ c k, c < q → c ≠ o → S'.2 c k = S.2 c k) → (∀ c, c < q → z c = zI c) → z (q + 1) 4 = 75 → (∀ c, c < q → z2 c = zL c) → Q none S' z z2) : wpM X (d + 2) fCurve_init [pR o, pR f, pR 5] S zI zL Q := by
  refine wp_in (C := c_Curve_init) (ls := [some (pR o), some (pR f), some (pR 5)]) rfl rfl rfl rfl rfl ?_
  have bn0 : q < 10000 := by omega
  have bn1 : q + 1 < 10000 := by omega
  have bn6 : q + 6 < 10000 := by omega
  have bn7 : q + 7 < 10000 := by omega
  have bn8 : q + 8 < 10000 := by omega
  have bn9 : q + 9 < 10000 := by omega
  have bt2 : q + 2 + 20 < 10000 := by omega
  have bx0 : q < xbase := by unfold xbase; omega
  have bx1 : q + 1 < xbase := by unfold xbase; omega
  have fz0 : ∀ c, c < q → zI c = zI c := fun c _ => rfl
  have fy0 : ∀ c, c < q → zL c = zL c := fun c _ => rfl
  refine r_aload_n rfl rfl ?_
  refine r_obj rfl (Nat.le_of_ble_eq_true rfl) ?_
  refine r_aload_n rfl rfl ?_
  refine k_new rfl (by decide +kernel) (by decide +kernel) hl bn0 (fun S1 z1 y1 ha1 hb1 hc1 hd1 he1 hf1 => ?_)
  have obn1 : ob S1 (q) 4 := ob_nw hl ha1 bx0
  have hl1 : S1.1.length = q + 1 := by rw [ha1, List.length_append, hl]; rfl
  have obo_1 := ob_ap ho ha1
  have fz1 : ∀ c, c < q → z1 c = zI c := fun c h => (hc1 c (Nat.ne_of_lt h)).trans (fz0 c h)
  have fy1 : ∀ c, c < q → y1 c = zL c := fun c h => (he1 c (Nat.ne_of_lt h)).trans (fy0 c h)
  refine r_dupR rfl ?_
  refine r_callI rfl (by decide) rfl rfl rfl (Nat.le_of_ble_eq_true rfl) (by decide +kernel) (by decide +kernel) (k_Point obn1 (fun y2 hy2 => ?_))
  have fy2 : ∀ c, c < q → y2 c = zL c := fun c h => (hy2 c (Nat.ne_of_lt h)).trans (fy1 c h)
  refine k_putR rfl obo_1 (fun S3 ha3 hb3 => ?_)
  have hl3 : S3.1.length = q + 1 := by rw [ha3]; exact hl1
  have obo_3 := ob_eq obo_1 ha3
  have obn1_3 := ob_eq obn1 ha3
  refine r_aload_n rfl rfl ?_
  refine k_new rfl (by decide +kernel) (by decide +kernel) hl3 bn1 (fun S4 z4 y4 ha4 hb4 hc4 hd4 he4 hf4 => ?_)
  have obn4 : ob S4 (q + 1) 5 := ob_nw hl3 ha4 bx1
  have hl4 : S4.1.length = q + 2 := by rw [ha4, List.length_append, hl3]; rfl
  have obo_4 := ob_ap obo_3 ha4
  have obn1_4 := ob_ap obn1_3 ha4
  have fz4 : ∀ c, c < q → z4 c = zI c := fun c h => (hc4 c (Nat.ne_of_lt (Nat.lt_of_lt_of_le h (Nat.le_add_right _ _)))).trans (fz1 c h)
  have fy4 : ∀ c, c < q → y4 c = zL c := fun c h => (he4 c (Nat.ne_of_lt (Nat.lt_of_lt_of_le h (Nat.le_add_right _ _)))).trans (fy2 c h)
  refine r_dupR rfl ?_
  refine r_bipush rfl ?_
  refine r_callI rfl (by decide) rfl rfl rfl (Nat.le_of_ble_eq_true rfl) (by decide +kernel) (by decide +kernel) (k_Points75 (q := q + 2) obn4 (Nat.lt_succ_self _) hl4 bt2 (fun S5 z5 y5 ha5 hb5 hz5 h45 hy5 => ?_))
  have hl5 : S5.1.length = q + 6 := by rw [ha5, List.length_append, hl4]; rfl
  have obo_5 := ob_ap obo_4 ha5
  have obn1_5 := ob_ap obn1_4 ha5
  have obn4_5 := ob_ap obn4 ha5
  have fz5 : ∀ c, c < q → z5 c = zI c := fun c h => (hz5 c (Nat.lt_of_lt_of_le h (Nat.le_add_right _ _)) (Nat.ne_of_lt (Nat.lt_of_lt_of_le h (Nat.le_add_right _ _)))).trans (fz4 c h)
  have fy5 : ∀ c, c < q → y5 c = zL c := fun c h => (hy5 c (Nat.lt_of_lt_of_le h (Nat.le_add_right _ _))).trans (fy4 c h)
  refine k_putR rfl obo_5 (fun S6 ha6 hb6 => ?_)
  have hl6 : S6.1.length = q + 6 := by rw [ha6]; exact hl5
  have obo_6 := ob_eq obo_5 ha6
  have obn1_6 := ob_eq obn1_5 ha6
  have obn4_6 := ob_eq obn4_5 ha6
  refine r_aload_n rfl rfl ?_
  refine r_bipush rfl ?_
  refine k_newa rfl rfl (by decide) (by decide +kernel) (by decide +kernel) hl6 bn6 (fun S7 z7 y7 ha7 hb7 hc7 hd7 he7 hf7 => ?_)
  have hl7 : S7.1.length = q + 7 := by rw [ha7, List.length_append, hl6]; rfl
  have obo_7 := ob_ap obo_6 ha7
  have obn1_7 := ob_ap obn1_6 ha7
  have obn4_7 := ob_ap obn4_6 ha7
  have fz7 : ∀ c, c < q → z7 c = zI c := fun c h => (hc7 c (Nat.ne_of_lt (Nat.lt_of_lt_of_le h (Nat.le_add_right _ _)))).trans (fz5 c h)
  have fy7 : ∀ c, c < q → y7 c = zL c := fun c h => (he7 c (Nat.ne_of_lt (Nat.lt_of_lt_of_le h (Nat.le_add_right _ _)))).trans (fy5 c h)
  refine k_putR rfl obo_7 (fun S8 ha8 hb8 => ?_)
  have hl8 : S8.1.length = q + 7 := by rw [ha8]; exact hl7
  have obo_8 := ob_eq obo_7 ha8
  have obn1_8 := ob_eq obn1_7 ha8
  have obn4_8 := ob_eq obn4_7 ha8
  refine r_aload_n rfl rfl ?_
  refine r_bipush rfl ?_
  refine k_newa rfl rfl (by decide) (by decide +kernel) (by decide +kernel) hl8 bn7 (fun S9 z9 y9 ha9 hb9 hc9 hd9 he9 hf9 => ?_)
  have hl9 : S9.1.length = q + 8 := by rw [ha9, List.length_append, hl8]; rfl
  have obo_9 := ob_ap obo_8 ha9
  have obn1_9 := ob_ap obn1_8 ha9
  have obn4_9 := ob_ap obn4_8 ha9
  have fz9 : ∀ c, c < q → z9 c = zI c := fun c h => (hc9 c (Nat.ne_of_lt (Nat.lt_of_lt_of_le h (Nat.le_add_right _ _)))).trans (fz7 c h)
  have fy9 : ∀ c, c < q → y9 c = zL c := fun c h => (he9 c (Nat.ne_of_lt (Nat.lt_of_lt_of_le h (Nat.le_add_right _ _)))).trans (fy7 c h)
  refine k_putR rfl obo_9 (fun S10 ha10 hb10 => ?_)
  have hl10 : S10.1.length = q + 8 := by rw [ha10]; exact hl9
  have obo_10 := ob_eq obo_9 ha10
  have obn1_10 := ob_eq obn1_9 ha10
  have obn4_10 := ob_eq obn4_9 ha10
  refine r_aload_n rfl rfl ?_
  refine r_bipush rfl ?_
  refine k_newa rfl rfl (by decide) (by decide +kernel) (by decide +kernel) hl10 bn8 (fun S11 z11 y11 ha11 hb11 hc11 hd11 he11 hf11 => ?_)
  have hl11 : S11.1.length = q + 9 := by rw [ha11, List.length_append, hl10]; rfl
  have obo_11 := ob_ap obo_10 ha11
  have obn1_11 := ob_ap obn1_10 ha11
  have obn4_11 := ob_ap obn4_10 ha11
  have fz11 : ∀ c, c < q → z11 c = zI c := fun c h => (hc11 c (Nat.ne_of_lt (Nat.lt_of_lt_of_le h (Nat.le_add_right _ _)))).trans (fz9 c h)
  have fy11 : ∀ c, c < q → y11 c = zL c := fun c h => (he11 c (Nat.ne_of_lt (Nat.lt_of_lt_of_le h (Nat.le_add_right _ _)))).trans (fy9 c h)
  refine k_putR rfl obo_11 (fun S12 ha12 hb12 => ?_)
  have hl12 : S12.1.length = q + 9 := by rw [ha12]; exact hl11
  have obo_12 := ob_eq obo_11 ha12
  have obn1_12 := ob_eq obn1_11 ha12
  have obn4_12 := ob_eq obn4_11 ha12
  refine r_aload_n rfl rfl ?_
  refine r_bipush rfl ?_
  refine k_newa rfl rfl (by decide) (by decide +kernel) (by decide +kernel) hl12 bn9 (fun S13 z13 y13 ha13 hb13 hc13 hd13 he13 hf13 => ?_)
  have hl13 : S13.1.length = q + 10 := by rw [ha13, List.length_append, hl12]; rfl
  have obo_13 := ob_ap obo_12 ha13
  have obn1_13 := ob_ap obn1_12 ha13
  have obn4_13 := ob_ap obn4_12 ha13
  have fz13 : ∀ c, c < q → z13 c = zI c := fun c h => (hc13 c (Nat.ne_of_lt (Nat.lt_of_lt_of_le h (Nat.le_add_right _ _)))).trans (fz11 c h)
  have fy13 : ∀ c, c < q → y13 c = zL c := fun c h => (he13 c (Nat.ne_of_lt (Nat.lt_of_lt_of_le h (Nat.le_add_right _ _)))).trans (fy11 c h)
  refine k_putR rfl obo_13 (fun S14 ha14 hb14 => ?_)
  have hl14 : S14.1.length = q + 10 := by rw [ha14]; exact hl13
  have obo_14 := ob_eq obo_13 ha14
  have obn1_14 := ob_eq obn1_13 ha14
  have obn4_14 := ob_eq obn4_13 ha14
  refine r_aload_n rfl rfl ?_
  refine r_aload_n rfl rfl ?_
  refine k_putR rfl obo_14 (fun S15 ha15 hb15 => ?_)
  have hl15 : S15.1.length = q + 10 := by rw [ha15]; exact hl14
  have obo_15 := ob_eq obo_14 ha15
  have obn1_15 := ob_eq obn1_14 ha15
  have obn4_15 := ob_eq obn4_14 ha15
  refine r_aload_n rfl rfl ?_
  refine r_aload_n rfl rfl ?_
  refine k_putR rfl obo_15 (fun S16 ha16 hb16 => ?_)
  have hl16 : S16.1.length = q + 10 := by rw [ha16]; exact hl15
  have obo_16 := ob_eq obo_15 ha16
  have obn1_16 := ob_eq obn1_15 ha16
  have obn4_16 := ob_eq obn4_15 ha16
  refine r_ret rfl ?_
  have hF : S16.2 = cvF S.2 o f q := by rw [hb16, hb15, hb14, hb13, hb12, hb11, hb10, hb9, hb8, hb7, hb6, hb5, hb4, hb3, hb1]; rfl
  refine hQ S16 z13 y13 ?_ (by rw [hF]; exact cvF_n hoq) (fun c k c0 c1 => by rw [hF]; exact cvF_k c0 c1) fz13 ?_ fy13
  · simp only [ha16, ha15, ha14, ha13, ha12, ha11, ha10, ha9, ha8, ha7, ha6, ha5, ha4, ha3, ha1, List.append_assoc, List.cons_append, List.nil_append]
  · rw [hc13 (q + 1) (Nat.ne_of_lt (Nat.add_lt_add_left (by decide) q)), hc11 (q + 1) (Nat.ne_of_lt (Nat.add_lt_add_left (by decide) q)), hc9 (q + 1) (Nat.ne_of_lt (Nat.add_lt_add_left (by decide) q)), hc7 (q + 1) (Nat.ne_of_lt (Nat.add_lt_add_left (by decide) q)), h45]
set_option maxHeartbeats 1000000 in
theorem k_Crossing {X : PX} {d : Nat} {S : SS} {zI zL : ZM} {Q : PQ} {o q : Nat} (ho : ob S o 0) (hoq : o < q) (hl : S.1.length = q) (hq : q + 40 < 10000) (hQ : ∀ (S' : SS) (z z2 : ZM), S'.1 = S.1 ++ [(5, 0), (13, 128), (13, 128), (13, 128), (13, 128), (12, 128), (4, 0), (4, 0), (4, 0)] → ((S'.2 o 0 = some q ∧ S'.2 o 1 = some (q + 5) ∧ S'.2 o 2 = some (q + 6) ∧ S'.2 o 3 = some (q + 7) ∧ S'.2 o 4 = some (q + 8)) ∧ S'.2 q 0 = some (q + 1) ∧ S'.2 q 1 = some (q + 2) ∧ S'.2 q 2 = some (q + 3) ∧ S'.2 q 3 = some (q + 4)) → (∀ c k, c < q → c ≠ o → S'.2 c k = S.2 c k) → (∀ c, c < q → z c = zI c) → z q 4 = 128 → (∀ c, c < q → z2 c = zL c) → Q none S' z z2) : wpM X (d + 2) fCrossing_init [pR o] S zI zL Q := by
  refine wp_in (C := c_Crossing_init) (ls := [some (pR o)]) rfl rfl rfl rfl rfl ?_
  have bn0 : q < 10000 := by omega
  have bn5 : q + 5 < 10000 := by omega
  have bn6 : q + 6 < 10000 := by omega
  have bn7 : q + 7 < 10000 := by omega
  have bn8 : q + 8 < 10000 := by omega
  have bt1 : q + 1 + 20 < 10000 := by omega
  have bx0 : q < xbase := by unfold xbase; omega
  have bx6 : q + 6 < xbase := by unfold xbase; omega
  have bx7 : q + 7 < xbase := by unfold xbase; omega
  have bx8 : q + 8 < xbase := by unfold xbase; omega
  have fz0 : ∀ c, c < q → zI c = zI c := fun c _ => rfl
  have fy0 : ∀ c, c < q → zL c = zL c := fun c _ => rfl
  refine r_aload_n rfl rfl ?_
  refine r_obj rfl (Nat.le_of_ble_eq_true rfl) ?_
  refine r_aload_n rfl rfl ?_
  refine k_new rfl (by decide +kernel) (by decide +kernel) hl bn0 (fun S1 z1 y1 ha1 hb1 hc1 hd1 he1 hf1 => ?_)
  have obn1 : ob S1 (q) 5 := ob_nw hl ha1 bx0
  have hl1 : S1.1.length = q + 1 := by rw [ha1, List.length_append, hl]; rfl
  have obo_1 := ob_ap ho ha1
  have fz1 : ∀ c, c < q → z1 c = zI c := fun c h => (hc1 c (Nat.ne_of_lt h)).trans (fz0 c h)
  have fy1 : ∀ c, c < q → y1 c = zL c := fun c h => (he1 c (Nat.ne_of_lt h)).trans (fy0 c h)
  refine r_dupR rfl ?_
  refine r_sipush rfl ?_
  refine r_callI rfl (by decide) rfl rfl rfl (Nat.le_of_ble_eq_true rfl) (by decide +kernel) (by decide +kernel) (k_Points128 (q := q + 1) obn1 (Nat.lt_succ_self _) hl1 bt1 (fun S2 z2 y2 ha2 hb2 hz2 h42 hy2 => ?_))
  have hl2 : S2.1.length = q + 5 := by rw [ha2, List.length_append, hl1]; rfl
  have obo_2 := ob_ap obo_1 ha2
  have obn1_2 := ob_ap obn1 ha2
  have fz2 : ∀ c, c < q → z2 c = zI c := fun c h => (hz2 c (Nat.lt_of_lt_of_le h (Nat.le_add_right _ _)) (Nat.ne_of_lt h)).trans (fz1 c h)
  have fy2 : ∀ c, c < q → y2 c = zL c := fun c h => (hy2 c (Nat.lt_of_lt_of_le h (Nat.le_add_right _ _))).trans (fy1 c h)
  refine k_putR rfl obo_2 (fun S3 ha3 hb3 => ?_)
  have hl3 : S3.1.length = q + 5 := by rw [ha3]; exact hl2
  have obo_3 := ob_eq obo_2 ha3
  have obn1_3 := ob_eq obn1_2 ha3
  refine r_aload_n rfl rfl ?_
  refine r_sipush rfl ?_
  refine k_newa rfl rfl (by decide) (by decide +kernel) (by decide +kernel) hl3 bn5 (fun S4 z4 y4 ha4 hb4 hc4 hd4 he4 hf4 => ?_)
  have hl4 : S4.1.length = q + 6 := by rw [ha4, List.length_append, hl3]; rfl
  have obo_4 := ob_ap obo_3 ha4
  have obn1_4 := ob_ap obn1_3 ha4
  have fz4 : ∀ c, c < q → z4 c = zI c := fun c h => (hc4 c (Nat.ne_of_lt (Nat.lt_of_lt_of_le h (Nat.le_add_right _ _)))).trans (fz2 c h)
  have fy4 : ∀ c, c < q → y4 c = zL c := fun c h => (he4 c (Nat.ne_of_lt (Nat.lt_of_lt_of_le h (Nat.le_add_right _ _)))).trans (fy2 c h)
  refine k_putR rfl obo_4 (fun S5 ha5 hb5 => ?_)
  have hl5 : S5.1.length = q + 6 := by rw [ha5]; exact hl4
  have obo_5 := ob_eq obo_4 ha5
  have obn1_5 := ob_eq obn1_4 ha5
  refine r_aload_n rfl rfl ?_
  refine k_new rfl (by decide +kernel) (by decide +kernel) hl5 bn6 (fun S6 z6 y6 ha6 hb6 hc6 hd6 he6 hf6 => ?_)
  have obn6 : ob S6 (q + 6) 4 := ob_nw hl5 ha6 bx6
  have hl6 : S6.1.length = q + 7 := by rw [ha6, List.length_append, hl5]; rfl
  have obo_6 := ob_ap obo_5 ha6
  have obn1_6 := ob_ap obn1_5 ha6
  have fz6 : ∀ c, c < q → z6 c = zI c := fun c h => (hc6 c (Nat.ne_of_lt (Nat.lt_of_lt_of_le h (Nat.le_add_right _ _)))).trans (fz4 c h)
  have fy6 : ∀ c, c < q → y6 c = zL c := fun c h => (he6 c (Nat.ne_of_lt (Nat.lt_of_lt_of_le h (Nat.le_add_right _ _)))).trans (fy4 c h)
  refine r_dupR rfl ?_
  refine r_callI rfl (by decide) rfl rfl rfl (Nat.le_of_ble_eq_true rfl) (by decide +kernel) (by decide +kernel) (k_Point obn6 (fun y7 hy7 => ?_))
  have fy7 : ∀ c, c < q → y7 c = zL c := fun c h => (hy7 c (Nat.ne_of_lt (Nat.lt_of_lt_of_le h (Nat.le_add_right _ _)))).trans (fy6 c h)
  refine k_putR rfl obo_6 (fun S8 ha8 hb8 => ?_)
  have hl8 : S8.1.length = q + 7 := by rw [ha8]; exact hl6
  have obo_8 := ob_eq obo_6 ha8
  have obn1_8 := ob_eq obn1_6 ha8
  have obn6_8 := ob_eq obn6 ha8
  refine r_aload_n rfl rfl ?_
  refine k_new rfl (by decide +kernel) (by decide +kernel) hl8 bn7 (fun S9 z9 y9 ha9 hb9 hc9 hd9 he9 hf9 => ?_)
  have obn9 : ob S9 (q + 7) 4 := ob_nw hl8 ha9 bx7
  have hl9 : S9.1.length = q + 8 := by rw [ha9, List.length_append, hl8]; rfl
  have obo_9 := ob_ap obo_8 ha9
  have obn1_9 := ob_ap obn1_8 ha9
  have obn6_9 := ob_ap obn6_8 ha9
  have fz9 : ∀ c, c < q → z9 c = zI c := fun c h => (hc9 c (Nat.ne_of_lt (Nat.lt_of_lt_of_le h (Nat.le_add_right _ _)))).trans (fz6 c h)
  have fy9 : ∀ c, c < q → y9 c = zL c := fun c h => (he9 c (Nat.ne_of_lt (Nat.lt_of_lt_of_le h (Nat.le_add_right _ _)))).trans (fy7 c h)
  refine r_dupR rfl ?_
  refine r_callI rfl (by decide) rfl rfl rfl (Nat.le_of_ble_eq_true rfl) (by decide +kernel) (by decide +kernel) (k_Point obn9 (fun y10 hy10 => ?_))
  have fy10 : ∀ c, c < q → y10 c = zL c := fun c h => (hy10 c (Nat.ne_of_lt (Nat.lt_of_lt_of_le h (Nat.le_add_right _ _)))).trans (fy9 c h)
  refine k_putR rfl obo_9 (fun S11 ha11 hb11 => ?_)
  have hl11 : S11.1.length = q + 8 := by rw [ha11]; exact hl9
  have obo_11 := ob_eq obo_9 ha11
  have obn1_11 := ob_eq obn1_9 ha11
  have obn6_11 := ob_eq obn6_9 ha11
  have obn9_11 := ob_eq obn9 ha11
  refine r_aload_n rfl rfl ?_
  refine k_new rfl (by decide +kernel) (by decide +kernel) hl11 bn8 (fun S12 z12 y12 ha12 hb12 hc12 hd12 he12 hf12 => ?_)
  have obn12 : ob S12 (q + 8) 4 := ob_nw hl11 ha12 bx8
  have hl12 : S12.1.length = q + 9 := by rw [ha12, List.length_append, hl11]; rfl
  have obo_12 := ob_ap obo_11 ha12
  have obn1_12 := ob_ap obn1_11 ha12
  have obn6_12 := ob_ap obn6_11 ha12
  have obn9_12 := ob_ap obn9_11 ha12
  have fz12 : ∀ c, c < q → z12 c = zI c := fun c h => (hc12 c (Nat.ne_of_lt (Nat.lt_of_lt_of_le h (Nat.le_add_right _ _)))).trans (fz9 c h)
  have fy12 : ∀ c, c < q → y12 c = zL c := fun c h => (he12 c (Nat.ne_of_lt (Nat.lt_of_lt_of_le h (Nat.le_add_right _ _)))).trans (fy10 c h)
  refine r_dupR rfl ?_
  refine r_callI rfl (by decide) rfl rfl rfl (Nat.le_of_ble_eq_true rfl) (by decide +kernel) (by decide +kernel) (k_Point obn12 (fun y13 hy13 => ?_))
  have fy13 : ∀ c, c < q → y13 c = zL c := fun c h => (hy13 c (Nat.ne_of_lt (Nat.lt_of_lt_of_le h (Nat.le_add_right _ _)))).trans (fy12 c h)
  refine k_putR rfl obo_12 (fun S14 ha14 hb14 => ?_)
  have hl14 : S14.1.length = q + 9 := by rw [ha14]; exact hl12
  have obo_14 := ob_eq obo_12 ha14
  have obn1_14 := ob_eq obn1_12 ha14
  have obn6_14 := ob_eq obn6_12 ha14
  have obn9_14 := ob_eq obn9_12 ha14
  have obn12_14 := ob_eq obn12 ha14
  refine r_ret rfl ?_
  have hF : S14.2 = crF2 S.2 o q := by rw [hb14, hb12, hb11, hb9, hb8, hb6, hb5, hb4, hb3, hb2, hb1]; rfl
  refine hQ S14 z12 y13 ?_ (by rw [hF]; exact crF2_n hoq) (fun c k c0 c1 => by rw [hF]; exact crF2_k c0 c1) fz12 ?_ fy13
  · simp only [ha14, ha12, ha11, ha9, ha8, ha6, ha5, ha4, ha3, ha2, ha1, List.append_assoc, List.cons_append, List.nil_append]
  · rw [hc12 q (Nat.ne_of_lt (Nat.lt_add_of_pos_right (by decide))), hc9 q (Nat.ne_of_lt (Nat.lt_add_of_pos_right (by decide))), hc6 q (Nat.ne_of_lt (Nat.lt_add_of_pos_right (by decide))), hc4 q (Nat.ne_of_lt (Nat.lt_add_of_pos_right (by decide))), h42]
