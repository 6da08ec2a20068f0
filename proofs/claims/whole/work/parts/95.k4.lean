/-! THE CONSTRUCTOR of the class, whole -/
def INV (z y : ZM) : Prop := (z 0 = fun _ => 0) ∧ z 14 4 = 128 ∧ z 24 1 = 0 ∧ (∀ f : Nat, f < 10 → z (26 + 15 * f + 6) 4 = 75) ∧ ∀ k : Nat, k < 4 → z (176 + 2 * k) 1 = -1 ∧ z (176 + 2 * k) 2 = 0 ∧ (y (176 + 2 * k + 1) = fun _ => 0)
set_option maxHeartbeats 4000000 in
theorem c_init {X : PX} {d : Nat} {S : SS} {zI zL : ZM} {Q : PQ} (hsk : SkN S 1) (h00 : zI 0 = fun _ => 0) (hQ : ∀ (S' : SS) (z y : ZM), SkN S' 184 → INV z y → Q none S' z y) : wpM X (d + 3) fC_init [pR 0] S zI zL Q := by
  have hl := skN_len hsk (by decide)
  have ob0 : ob S 0 9 := skN_ob hsk rfl (by decide)
  have lpS : ∀ n k : Nat, k + n = 4 → ∀ (S : SS) (z y : ZM) (mc ms : Nat), SkN S (176 + 2 * k) → (z 0 = fun _ => 0) → z 14 4 = 128 → z 24 1 = 0 → (∀ f : Nat, f < 10 → z (26 + 15 * f + 6) 4 = 75) → (∀ j : Nat, j < k → z (176 + 2 * j) 1 = -1 ∧ z (176 + 2 * j) 2 = 0 ∧ (y (176 + 2 * j + 1) = fun _ => 0)) → mc = 2 * n → 43 * n ≤ ms → Run X (d + 2) c_C_init 77 [some (pR 0), some (pI (k : Int))] [] S z y mc ms Q := by
    intro n
    induction n with
    | zero =>
      intro k hk S z y mc ms h1 h2 h3 h4 h5 h6 h7 _
      have e : k = 4 := by omega
      subst e
      have e2 : mc = 0 := h7
      subst e2
      refine r_iload_n rfl rfl ?_
      refine r_iconst rfl ?_
      refine r_icmp_ge rfl (by unfold inI; decide) (by unfold inI; decide) (fun _ => ?_) (fun q => absurd q (by decide))
      refine r_ret rfl ?_
      exact hQ S z y h1 ⟨h2, h3, h4, h5, h6⟩
    | succ n ih =>
      intro k hk S z y mc ms h1 h2 h3 h4 h5 h6 h7 h8
      refine r_iload_n rfl rfl ?_
      refine r_iconst rfl ?_
      refine r_icmp_ge rfl (by unfold inI; omega) (by unfold inI; omega) (fun q => absurd q (by omega)) (fun _ => ?_)
      refine k_iterS (by omega) h1 (by omega) (by omega) (fun S' z' y' g1 g2 g3 g4 g5 g6 mc' ms' g7 g8 => ?_)
      have hi := ih (k + 1) (by omega) S' z' y' mc' ms' (by rw [show 176 + 2 * (k + 1) = 176 + 2 * k + 2 by omega]; exact g1) ((g2 0 (by omega)).trans h2) ((congrFun (g2 14 (by omega)) 4).trans h3) ((congrFun (g2 24 (by omega)) 1).trans h4) (fun f hf => (congrFun (g2 _ (by omega)) 4).trans (h5 f hf)) (fun j hj => by
        by_cases e : j = k
        · rw [e]; exact ⟨g3, g4, g6⟩
        · obtain ⟨x1, x2, x3⟩ := h6 j (by omega)
          rw [g2 _ (by omega), g5 _ (by omega)]; exact ⟨x1, x2, x3⟩) (by omega) (by omega)
      rw [Int.natCast_add] at hi
      exact hi
  have lpF : ∀ n k : Nat, k + n = 10 → ∀ (S : SS) (z y : ZM) (mc ms : Nat), SkN S (26 + 15 * k) → (z 0 = fun _ => 0) → z 14 4 = 128 → z 24 1 = 0 → (∀ f : Nat, f < k → z (26 + 15 * f + 6) 4 = 75) → mc = 15 * n + 8 → 1139 * n + 172 ≤ ms → Run X (d + 2) c_C_init 50 [some (pR 0), some (pI (k : Int))] [] S z y mc ms Q := by
    intro n
    induction n with
    | zero =>
      intro k hk S z y mc ms h1 h2 h3 h4 h5 h7 h8
      have e : k = 10 := by omega
      subst e
      refine r_iload_n rfl rfl ?_
      refine r_bipush rfl ?_
      refine r_icmp_ge rfl (by unfold inI; decide) (by unfold inI; decide) (fun _ => ?_) (fun q => absurd q (by decide))
      refine r_iconst rfl ?_
      refine r_istore_n rfl (Nat.le_of_ble_eq_true rfl) ?_
      exact lpS 4 0 rfl S z y mc ms h1 h2 h3 h4 h5 (fun j hj => absurd hj (by omega)) (by omega) (by omega)
    | succ n ih =>
      intro k hk S z y mc ms h1 h2 h3 h4 h5 h7 h8
      refine r_iload_n rfl rfl ?_
      refine r_bipush rfl ?_
      refine r_icmp_ge rfl (by unfold inI; omega) (by unfold inI; omega) (fun q => absurd q (by omega)) (fun _ => ?_)
      refine k_iter (by omega) h1 (by omega) (by omega) (fun S' z' y' g1 g2 g3 g4 mc' ms' g7 g8 => ?_)
      have hi := ih (k + 1) (by omega) S' z' y' mc' ms' (by rw [show 26 + 15 * (k + 1) = 26 + 15 * k + 15 by omega]; exact g1) ((g2 0 (by omega)).trans h2) ((congrFun (g2 14 (by omega)) 4).trans h3) ((congrFun (g2 24 (by omega)) 1).trans h4) (fun f hf => by
        by_cases e : f = k
        · rw [e]; exact g3
        · rw [g2 _ (by omega)]; exact h5 f (by omega)) (by omega) (by omega)
      rw [Int.natCast_add] at hi
      exact hi
  refine wp_in (C := c_C_init) (ls := [some (pR 0), none]) rfl rfl rfl rfl rfl ?_
  refine r_aload_n rfl rfl ?_
  refine r_obj rfl (Nat.le_of_ble_eq_true rfl) ?_
  have bn1 : 1 < 10000 := by omega
  have fz0 : ∀ c, c < 1 → zI c = zI c := fun c _ => rfl
  have fy0 : ∀ c, c < 1 → zL c = zL c := fun c _ => rfl
  refine r_aload_n rfl rfl ?_
  refine r_bipush rfl ?_
  refine k_newq rfl rfl (by decide) (by decide +kernel) (by decide +kernel) hl bn1 (fun S1 ha1 hb1 => ?_)
  have hl1 : S1.1.length = 2 := by rw [ha1, List.length_append, hl]; rfl
  have ob0_1 := ob_ap ob0 ha1
  refine k_putR rfl ob0_1 (fun S2 ha2 hb2 => ?_)
  have hl2 : S2.1.length = 2 := by rw [ha2]; exact hl1
  have ob0_2 := ob_eq ob0_1 ha2
  have sk0 : SkN S2 2 := by
    refine skN_of (l := [(15, 10)]) (fun e => ¬ (e.1 = 0 ∧ e.2.1 = 0)) [(0, 0, 1)] hsk (by simp only [ha2, ha1, List.append_assoc, List.cons_append, List.nil_append]) (by decide +kernel) (by decide +kernel) ?_ (fun e h1 h2 => by rw [hb2, rput_o h2, hb1, rrow_o (Nat.ne_of_lt h1)])
    simp only [List.forall_mem_cons, List.not_mem_nil, false_implies, implies_true, and_true]
    exact by simp (decide := true) only [hb2, hb1, rput, rrow, ↓reduceIte]
  have i0_0 : zI 0 = fun _ => 0 := (fz0 0 (by decide)).trans h00
  have bn2 : 2 < 10000 := by omega
  have fz0 : ∀ c, c < 2 → zI c = zI c := fun c _ => rfl
  have fy0 : ∀ c, c < 2 → zL c = zL c := fun c _ => rfl
  refine r_aload_n rfl rfl ?_
  refine r_bipush rfl ?_
  refine k_newq rfl rfl (by decide) (by decide +kernel) (by decide +kernel) hl2 bn2 (fun S3 ha3 hb3 => ?_)
  have hl3 : S3.1.length = 3 := by rw [ha3, List.length_append, hl2]; rfl
  have ob0_3 := ob_ap ob0_2 ha3
  refine k_putR rfl ob0_3 (fun S4 ha4 hb4 => ?_)
  have hl4 : S4.1.length = 3 := by rw [ha4]; exact hl3
  have ob0_4 := ob_eq ob0_3 ha4
  have sk1 : SkN S4 3 := by
    refine skN_of (l := [(16, 10)]) (fun e => ¬ (e.1 = 0 ∧ e.2.1 = 1)) [(0, 1, 2)] sk0 (by simp only [ha4, ha3, List.append_assoc, List.cons_append, List.nil_append]) (by decide +kernel) (by decide +kernel) ?_ (fun e h1 h2 => by rw [hb4, rput_o h2, hb3, rrow_o (Nat.ne_of_lt h1)])
    simp only [List.forall_mem_cons, List.not_mem_nil, false_implies, implies_true, and_true]
    exact by simp (decide := true) only [hb4, hb3, rput, rrow, ↓reduceIte]
  have i0_1 : zI 0 = fun _ => 0 := (fz0 0 (by decide)).trans i0_0
  have bn3 : 3 < 10000 := by omega
  have fz0 : ∀ c, c < 3 → zI c = zI c := fun c _ => rfl
  have fy0 : ∀ c, c < 3 → zL c = zL c := fun c _ => rfl
  refine r_aload_n rfl rfl ?_
  refine r_iconst rfl ?_
  refine k_newq rfl rfl (by decide) (by decide +kernel) (by decide +kernel) hl4 bn3 (fun S5 ha5 hb5 => ?_)
  have hl5 : S5.1.length = 4 := by rw [ha5, List.length_append, hl4]; rfl
  have ob0_5 := ob_ap ob0_4 ha5
  refine k_putR rfl ob0_5 (fun S6 ha6 hb6 => ?_)
  have hl6 : S6.1.length = 4 := by rw [ha6]; exact hl5
  have ob0_6 := ob_eq ob0_5 ha6
  have sk2 : SkN S6 4 := by
    refine skN_of (l := [(17, 4)]) (fun e => ¬ (e.1 = 0 ∧ e.2.1 = 2)) [(0, 2, 3)] sk1 (by simp only [ha6, ha5, List.append_assoc, List.cons_append, List.nil_append]) (by decide +kernel) (by decide +kernel) ?_ (fun e h1 h2 => by rw [hb6, rput_o h2, hb5, rrow_o (Nat.ne_of_lt h1)])
    simp only [List.forall_mem_cons, List.not_mem_nil, false_implies, implies_true, and_true]
    exact by simp (decide := true) only [hb6, hb5, rput, rrow, ↓reduceIte]
  have i0_2 : zI 0 = fun _ => 0 := (fz0 0 (by decide)).trans i0_1
  have bn4 : 4 < 10000 := by omega
  have fz0 : ∀ c, c < 4 → zI c = zI c := fun c _ => rfl
  have fy0 : ∀ c, c < 4 → zL c = zL c := fun c _ => rfl
  refine r_aload_n rfl rfl ?_
  refine r_sipush rfl ?_
  refine k_newa rfl rfl (by decide) (by decide +kernel) (by decide +kernel) hl6 bn4 (fun S7 z7 y7 ha7 hb7 hc7 hd7 he7 hf7 => ?_)
  have hl7 : S7.1.length = 5 := by rw [ha7, List.length_append, hl6]; rfl
  have ob0_7 := ob_ap ob0_6 ha7
  have fz7 : ∀ c, c < 4 → z7 c = zI c := fun c h => (hc7 c (Nat.ne_of_lt (Nat.lt_of_lt_of_le h (by decide)))).trans (fz0 c h)
  have fy7 : ∀ c, c < 4 → y7 c = zL c := fun c h => (he7 c (Nat.ne_of_lt (Nat.lt_of_lt_of_le h (by decide)))).trans (fy0 c h)
  refine k_putR rfl ob0_7 (fun S8 ha8 hb8 => ?_)
  have hl8 : S8.1.length = 5 := by rw [ha8]; exact hl7
  have ob0_8 := ob_eq ob0_7 ha8
  have sk3 : SkN S8 5 := by
    refine skN_of (l := [(13, 756)]) (fun e => ¬ (e.1 = 0 ∧ e.2.1 = 3)) [(0, 3, 4)] sk2 (by simp only [ha8, ha7, List.append_assoc, List.cons_append, List.nil_append]) (by decide +kernel) (by decide +kernel) ?_ (fun e h1 h2 => by rw [hb8, rput_o h2, hb7])
    simp only [List.forall_mem_cons, List.not_mem_nil, false_implies, implies_true, and_true]
    exact by simp (decide := true) only [hb8, hb7, rput, rrow, ↓reduceIte]
  have i0_3 : z7 0 = fun _ => 0 := (fz7 0 (by decide)).trans i0_2
  have bn5 : 5 < 10000 := by omega
  have bt6 : 6 + 20 < 10000 := by omega
  have bx5 : 5 < xbase := by unfold xbase; omega
  have fz0 : ∀ c, c < 5 → z7 c = z7 c := fun c _ => rfl
  have fy0 : ∀ c, c < 5 → y7 c = y7 c := fun c _ => rfl
  refine r_aload_n rfl rfl ?_
  refine k_new rfl (by decide +kernel) (by decide +kernel) hl8 bn5 (fun S9 z9 y9 ha9 hb9 hc9 hd9 he9 hf9 => ?_)
  have obn9 : ob S9 (5) 6 := ob_nw hl8 ha9 bx5
  have hl9 : S9.1.length = 6 := by rw [ha9, List.length_append, hl8]; rfl
  have ob0_9 := ob_ap ob0_8 ha9
  have fz9 : ∀ c, c < 5 → z9 c = z7 c := fun c h => (hc9 c (Nat.ne_of_lt (Nat.lt_of_lt_of_le h (by decide)))).trans (fz0 c h)
  have fy9 : ∀ c, c < 5 → y9 c = y7 c := fun c h => (he9 c (Nat.ne_of_lt (Nat.lt_of_lt_of_le h (by decide)))).trans (fy0 c h)
  refine r_dupR rfl ?_
  refine r_callI rfl (by decide) rfl rfl rfl (Nat.le_of_ble_eq_true rfl) (by decide +kernel) (by decide +kernel) (k_Ring (q := 6) obn9 hl9 bt6 (fun S10 z10 y10 ha10 hb10 hz10 hy10 => ?_))
  have hl10 : S10.1.length = 9 := by rw [ha10, List.length_append, hl9]; rfl
  have ob0_10 := ob_ap ob0_9 ha10
  have obn9_10 := ob_ap obn9 ha10
  have fz10 : ∀ c, c < 5 → z10 c = z7 c := fun c h => (hz10 c (Nat.lt_of_lt_of_le h (by decide))).trans (fz9 c h)
  have fy10 : ∀ c, c < 5 → y10 c = y7 c := fun c h => (hy10 c (Nat.lt_of_lt_of_le h (by decide))).trans (fy9 c h)
  refine k_putR rfl ob0_10 (fun S11 ha11 hb11 => ?_)
  have hl11 : S11.1.length = 9 := by rw [ha11]; exact hl10
  have ob0_11 := ob_eq ob0_10 ha11
  have obn9_11 := ob_eq obn9_10 ha11
  have sk4 : SkN S11 9 := by
    refine skN_of (l := [(6, 0), (12, 81), (12, 81), (12, 81)]) (fun e => ¬ (e.1 = 0 ∧ e.2.1 = 4)) [(0, 4, 5), (5, 0, 6), (5, 1, 7), (5, 2, 8)] sk3 (by simp only [ha11, ha10, ha9, List.append_assoc, List.cons_append, List.nil_append]) (by decide +kernel) (by decide +kernel) ?_ (fun e h1 h2 => by rw [hb11, rput_o h2, hb10, rput_o (fun x => absurd x.1 (Nat.ne_of_lt h1)), rput_o (fun x => absurd x.1 (Nat.ne_of_lt h1)), rput_o (fun x => absurd x.1 (Nat.ne_of_lt h1)), hb9, rrow_o (Nat.ne_of_lt h1)])
    simp only [List.forall_mem_cons, List.not_mem_nil, false_implies, implies_true, and_true]
    exact ⟨by simp (decide := true) only [hb11, hb10, hb9, rput, rrow, ↓reduceIte], by simp (decide := true) only [hb11, hb10, hb9, rput, rrow, ↓reduceIte], by simp (decide := true) only [hb11, hb10, hb9, rput, rrow, ↓reduceIte], by simp (decide := true) only [hb11, hb10, hb9, rput, rrow, ↓reduceIte]⟩
  have i0_4 : z10 0 = fun _ => 0 := (fz10 0 (by decide)).trans i0_3
  have bn9 : 9 < 10000 := by omega
  have bt10 : 10 + 20 < 10000 := by omega
  have bx9 : 9 < xbase := by unfold xbase; omega
  have fz0 : ∀ c, c < 9 → z10 c = z10 c := fun c _ => rfl
  have fy0 : ∀ c, c < 9 → y10 c = y10 c := fun c _ => rfl
  refine r_aload_n rfl rfl ?_
  refine k_new rfl (by decide +kernel) (by decide +kernel) hl11 bn9 (fun S12 z12 y12 ha12 hb12 hc12 hd12 he12 hf12 => ?_)
  have obn12 : ob S12 (9) 2 := ob_nw hl11 ha12 bx9
  have hl12 : S12.1.length = 10 := by rw [ha12, List.length_append, hl11]; rfl
  have ob0_12 := ob_ap ob0_11 ha12
  have fz12 : ∀ c, c < 9 → z12 c = z10 c := fun c h => (hc12 c (Nat.ne_of_lt (Nat.lt_of_lt_of_le h (by decide)))).trans (fz0 c h)
  have fy12 : ∀ c, c < 9 → y12 c = y10 c := fun c h => (he12 c (Nat.ne_of_lt (Nat.lt_of_lt_of_le h (by decide)))).trans (fy0 c h)
  refine r_dupR rfl ?_
  refine r_callI rfl (by decide) rfl rfl rfl (Nat.le_of_ble_eq_true rfl) (by decide +kernel) (by decide +kernel) (k_Draft (q := 10) obn12 hl12 bt10 (fun S13 z13 y13 ha13 hb13 hz13 hy13 => ?_))
  have hl13 : S13.1.length = 11 := by rw [ha13, List.length_append, hl12]; rfl
  have ob0_13 := ob_ap ob0_12 ha13
  have obn12_13 := ob_ap obn12 ha13
  have fz13 : ∀ c, c < 9 → z13 c = z10 c := fun c h => (hz13 c (Nat.lt_of_lt_of_le h (by decide))).trans (fz12 c h)
  have fy13 : ∀ c, c < 9 → y13 c = y10 c := fun c h => (hy13 c (Nat.lt_of_lt_of_le h (by decide))).trans (fy12 c h)
  refine k_putR rfl ob0_13 (fun S14 ha14 hb14 => ?_)
  have hl14 : S14.1.length = 11 := by rw [ha14]; exact hl13
  have ob0_14 := ob_eq ob0_13 ha14
  have obn12_14 := ob_eq obn12_13 ha14
  have sk5 : SkN S14 11 := by
    refine skN_of (l := [(2, 0), (12, 81)]) (fun e => ¬ (e.1 = 0 ∧ e.2.1 = 5)) [(0, 5, 9), (9, 0, 10)] sk4 (by simp only [ha14, ha13, ha12, List.append_assoc, List.cons_append, List.nil_append]) (by decide +kernel) (by decide +kernel) ?_ (fun e h1 h2 => by rw [hb14, rput_o h2, hb13, rput_o (fun x => absurd x.1 (Nat.ne_of_lt h1)), hb12, rrow_o (Nat.ne_of_lt h1)])
    simp only [List.forall_mem_cons, List.not_mem_nil, false_implies, implies_true, and_true]
    exact ⟨by simp (decide := true) only [hb14, hb13, hb12, rput, rrow, ↓reduceIte], by simp (decide := true) only [hb14, hb13, hb12, rput, rrow, ↓reduceIte]⟩
  have i0_5 : z13 0 = fun _ => 0 := (fz13 0 (by decide)).trans i0_4
  have bn11 : 11 < 10000 := by omega
  have bt12 : 12 + 20 < 10000 := by omega
  have bx11 : 11 < xbase := by unfold xbase; omega
  have fz0 : ∀ c, c < 11 → z13 c = z13 c := fun c _ => rfl
  have fy0 : ∀ c, c < 11 → y13 c = y13 c := fun c _ => rfl
  refine r_aload_n rfl rfl ?_
  refine k_new rfl (by decide +kernel) (by decide +kernel) hl14 bn11 (fun S15 z15 y15 ha15 hb15 hc15 hd15 he15 hf15 => ?_)
  have obn15 : ob S15 (11) 2 := ob_nw hl14 ha15 bx11
  have hl15 : S15.1.length = 12 := by rw [ha15, List.length_append, hl14]; rfl
  have ob0_15 := ob_ap ob0_14 ha15
  have fz15 : ∀ c, c < 11 → z15 c = z13 c := fun c h => (hc15 c (Nat.ne_of_lt (Nat.lt_of_lt_of_le h (by decide)))).trans (fz0 c h)
  have fy15 : ∀ c, c < 11 → y15 c = y13 c := fun c h => (he15 c (Nat.ne_of_lt (Nat.lt_of_lt_of_le h (by decide)))).trans (fy0 c h)
  refine r_dupR rfl ?_
  refine r_callI rfl (by decide) rfl rfl rfl (Nat.le_of_ble_eq_true rfl) (by decide +kernel) (by decide +kernel) (k_Draft (q := 12) obn15 hl15 bt12 (fun S16 z16 y16 ha16 hb16 hz16 hy16 => ?_))
  have hl16 : S16.1.length = 13 := by rw [ha16, List.length_append, hl15]; rfl
  have ob0_16 := ob_ap ob0_15 ha16
  have obn15_16 := ob_ap obn15 ha16
  have fz16 : ∀ c, c < 11 → z16 c = z13 c := fun c h => (hz16 c (Nat.lt_of_lt_of_le h (by decide))).trans (fz15 c h)
  have fy16 : ∀ c, c < 11 → y16 c = y13 c := fun c h => (hy16 c (Nat.lt_of_lt_of_le h (by decide))).trans (fy15 c h)
  refine k_putR rfl ob0_16 (fun S17 ha17 hb17 => ?_)
  have hl17 : S17.1.length = 13 := by rw [ha17]; exact hl16
  have ob0_17 := ob_eq ob0_16 ha17
  have obn15_17 := ob_eq obn15_16 ha17
  have sk6 : SkN S17 13 := by
    refine skN_of (l := [(2, 0), (12, 81)]) (fun e => ¬ (e.1 = 0 ∧ e.2.1 = 6)) [(0, 6, 11), (11, 0, 12)] sk5 (by simp only [ha17, ha16, ha15, List.append_assoc, List.cons_append, List.nil_append]) (by decide +kernel) (by decide +kernel) ?_ (fun e h1 h2 => by rw [hb17, rput_o h2, hb16, rput_o (fun x => absurd x.1 (Nat.ne_of_lt h1)), hb15, rrow_o (Nat.ne_of_lt h1)])
    simp only [List.forall_mem_cons, List.not_mem_nil, false_implies, implies_true, and_true]
    exact ⟨by simp (decide := true) only [hb17, hb16, hb15, rput, rrow, ↓reduceIte], by simp (decide := true) only [hb17, hb16, hb15, rput, rrow, ↓reduceIte]⟩
  have i0_6 : z16 0 = fun _ => 0 := (fz16 0 (by decide)).trans i0_5
  have bf14 : 14 + 40 < 10000 := by omega
  have bn13 : 13 < 10000 := by omega
  have bx13 : 13 < xbase := by unfold xbase; omega
  have fz0 : ∀ c, c < 13 → z16 c = z16 c := fun c _ => rfl
  have fy0 : ∀ c, c < 13 → y16 c = y16 c := fun c _ => rfl
  refine r_aload_n rfl rfl ?_
  refine k_new rfl (by decide +kernel) (by decide +kernel) hl17 bn13 (fun S18 z18 y18 ha18 hb18 hc18 hd18 he18 hf18 => ?_)
  have obn18 : ob S18 (13) 0 := ob_nw hl17 ha18 bx13
  have hl18 : S18.1.length = 14 := by rw [ha18, List.length_append, hl17]; rfl
  have ob0_18 := ob_ap ob0_17 ha18
  have fz18 : ∀ c, c < 13 → z18 c = z16 c := fun c h => (hc18 c (Nat.ne_of_lt (Nat.lt_of_lt_of_le h (by decide)))).trans (fz0 c h)
  have fy18 : ∀ c, c < 13 → y18 c = y16 c := fun c h => (he18 c (Nat.ne_of_lt (Nat.lt_of_lt_of_le h (by decide)))).trans (fy0 c h)
  refine r_dupR rfl ?_
  refine r_callI rfl (by decide) rfl rfl rfl (Nat.le_of_ble_eq_true rfl) (by decide +kernel) (by decide +kernel) (k_Crossing (q := 14) obn18 (by decide) hl18 bf14 (fun S19 z19 y19 ha19 hn19 hk19 hz19 h419 hy19 => ?_))
  have hl19 : S19.1.length = 23 := by rw [ha19, List.length_append, hl18]; rfl
  have ob0_19 := ob_ap ob0_18 ha19
  have obn18_19 := ob_ap obn18 ha19
  have fz19 : ∀ c, c < 13 → z19 c = z16 c := fun c h => (hz19 c (Nat.lt_of_lt_of_le h (by decide))).trans (fz18 c h)
  have fy19 : ∀ c, c < 13 → y19 c = y16 c := fun c h => (hy19 c (Nat.lt_of_lt_of_le h (by decide))).trans (fy18 c h)
  refine k_putR rfl ob0_19 (fun S20 ha20 hb20 => ?_)
  have hl20 : S20.1.length = 23 := by rw [ha20]; exact hl19
  have ob0_20 := ob_eq ob0_19 ha20
  have obn18_20 := ob_eq obn18_19 ha20
  have sk7 : SkN S20 23 := by
    refine skN_of (l := [(0, 0), (5, 0), (13, 128), (13, 128), (13, 128), (13, 128), (12, 128), (4, 0), (4, 0), (4, 0)]) (fun e => ¬ (e.1 = 0 ∧ e.2.1 = 7)) [(0, 7, 13), (13, 0, 14), (13, 1, 19), (13, 2, 20), (13, 3, 21), (13, 4, 22), (14, 0, 15), (14, 1, 16), (14, 2, 17), (14, 3, 18)] sk6 (by simp only [ha20, ha19, ha18, List.append_assoc, List.cons_append, List.nil_append]) (by decide +kernel) (by decide +kernel) ?_ (fun e h1 h2 => by rw [hb20, rput_o h2, hk19 _ _ (Nat.lt_succ_of_lt h1) (Nat.ne_of_lt h1), hb18, rrow_o (Nat.ne_of_lt h1)])
    simp only [List.forall_mem_cons, List.not_mem_nil, false_implies, implies_true, and_true]
    exact ⟨by rw [hb20, rput_a], by rw [hb20, rput_o (by decide)]; exact hn19.1.1, by rw [hb20, rput_o (by decide)]; exact hn19.1.2.1, by rw [hb20, rput_o (by decide)]; exact hn19.1.2.2.1, by rw [hb20, rput_o (by decide)]; exact hn19.1.2.2.2.1, by rw [hb20, rput_o (by decide)]; exact hn19.1.2.2.2.2, by rw [hb20, rput_o (by decide)]; exact hn19.2.1, by rw [hb20, rput_o (by decide)]; exact hn19.2.2.1, by rw [hb20, rput_o (by decide)]; exact hn19.2.2.2.1, by rw [hb20, rput_o (by decide)]; exact hn19.2.2.2.2⟩
  have i0_7 : z19 0 = fun _ => 0 := (fz19 0 (by decide)).trans i0_6
  have i14_7 : z19 14 4 = 128 := h419
  have bn23 : 23 < 10000 := by omega
  have bx23 : 23 < xbase := by unfold xbase; omega
  have fz0 : ∀ c, c < 23 → z19 c = z19 c := fun c _ => rfl
  have fy0 : ∀ c, c < 23 → y19 c = y19 c := fun c _ => rfl
  refine r_aload_n rfl rfl ?_
  refine k_new rfl (by decide +kernel) (by decide +kernel) hl20 bn23 (fun S21 z21 y21 ha21 hb21 hc21 hd21 he21 hf21 => ?_)
  have obn21 : ob S21 (23) 4 := ob_nw hl20 ha21 bx23
  have hl21 : S21.1.length = 24 := by rw [ha21, List.length_append, hl20]; rfl
  have ob0_21 := ob_ap ob0_20 ha21
  have fz21 : ∀ c, c < 23 → z21 c = z19 c := fun c h => (hc21 c (Nat.ne_of_lt (Nat.lt_of_lt_of_le h (by decide)))).trans (fz0 c h)
  have fy21 : ∀ c, c < 23 → y21 c = y19 c := fun c h => (he21 c (Nat.ne_of_lt (Nat.lt_of_lt_of_le h (by decide)))).trans (fy0 c h)
  refine r_dupR rfl ?_
  refine r_callI rfl (by decide) rfl rfl rfl (Nat.le_of_ble_eq_true rfl) (by decide +kernel) (by decide +kernel) (k_Point obn21 (fun y22 hy22 => ?_))
  have fy22 : ∀ c, c < 23 → y22 c = y19 c := fun c h => (hy22 c (Nat.ne_of_lt h)).trans (fy21 c h)
  refine k_putR rfl ob0_21 (fun S23 ha23 hb23 => ?_)
  have hl23 : S23.1.length = 24 := by rw [ha23]; exact hl21
  have ob0_23 := ob_eq ob0_21 ha23
  have obn21_23 := ob_eq obn21 ha23
  have sk8 : SkN S23 24 := by
    refine skN_of (l := [(4, 0)]) (fun e => ¬ (e.1 = 0 ∧ e.2.1 = 8)) [(0, 8, 23)] sk7 (by simp only [ha23, ha21, List.append_assoc, List.cons_append, List.nil_append]) (by decide +kernel) (by decide +kernel) ?_ (fun e h1 h2 => by rw [hb23, rput_o h2, hb21, rrow_o (Nat.ne_of_lt h1)])
    simp only [List.forall_mem_cons, List.not_mem_nil, false_implies, implies_true, and_true]
    exact by simp (decide := true) only [hb23, hb21, rput, rrow, ↓reduceIte]
  have i0_8 : z21 0 = fun _ => 0 := (fz21 0 (by decide)).trans i0_7
  have i14_8 : z21 14 4 = 128 := (congrFun (fz21 14 (by decide)) 4).trans i14_7
  have bn24 : 24 < 10000 := by omega
  have bt25 : 25 + 20 < 10000 := by omega
  have bx24 : 24 < xbase := by unfold xbase; omega
  have fz0 : ∀ c, c < 24 → z21 c = z21 c := fun c _ => rfl
  have fy0 : ∀ c, c < 24 → y22 c = y22 c := fun c _ => rfl
  refine r_aload_n rfl rfl ?_
  refine k_new rfl (by decide +kernel) (by decide +kernel) hl23 bn24 (fun S24 z24 y24 ha24 hb24 hc24 hd24 he24 hf24 => ?_)
  have obn24 : ob S24 (24) 8 := ob_nw hl23 ha24 bx24
  have hl24 : S24.1.length = 25 := by rw [ha24, List.length_append, hl23]; rfl
  have ob0_24 := ob_ap ob0_23 ha24
  have fz24 : ∀ c, c < 24 → z24 c = z21 c := fun c h => (hc24 c (Nat.ne_of_lt (Nat.lt_of_lt_of_le h (by decide)))).trans (fz0 c h)
  have fy24 : ∀ c, c < 24 → y24 c = y22 c := fun c h => (he24 c (Nat.ne_of_lt (Nat.lt_of_lt_of_le h (by decide)))).trans (fy0 c h)
  refine r_dupR rfl ?_
  refine r_callI rfl (by decide) rfl rfl rfl (Nat.le_of_ble_eq_true rfl) (by decide +kernel) (by decide +kernel) (k_Trace (q := 25) obn24 hl24 bt25 (fun S25 z25 y25 ha25 hb25 hz25 hy25 => ?_))
  have hl25 : S25.1.length = 26 := by rw [ha25, List.length_append, hl24]; rfl
  have ob0_25 := ob_ap ob0_24 ha25
  have obn24_25 := ob_ap obn24 ha25
  have fz25 : ∀ c, c < 24 → z25 c = z21 c := fun c h => (hz25 c (Nat.lt_of_lt_of_le h (by decide))).trans (fz24 c h)
  have fy25 : ∀ c, c < 24 → y25 c = y22 c := fun c h => (hy25 c (Nat.lt_of_lt_of_le h (by decide))).trans (fy24 c h)
  refine k_putR rfl ob0_25 (fun S26 ha26 hb26 => ?_)
  have hl26 : S26.1.length = 26 := by rw [ha26]; exact hl25
  have ob0_26 := ob_eq ob0_25 ha26
  have obn24_26 := ob_eq obn24_25 ha26
  have sk9 : SkN S26 26 := by
    refine skN_of (l := [(8, 0), (12, 40)]) (fun e => ¬ (e.1 = 0 ∧ e.2.1 = 9)) [(0, 9, 24), (24, 0, 25)] sk8 (by simp only [ha26, ha25, ha24, List.append_assoc, List.cons_append, List.nil_append]) (by decide +kernel) (by decide +kernel) ?_ (fun e h1 h2 => by rw [hb26, rput_o h2, hb25, rput_o (fun x => absurd x.1 (Nat.ne_of_lt h1)), hb24, rrow_o (Nat.ne_of_lt h1)])
    simp only [List.forall_mem_cons, List.not_mem_nil, false_implies, implies_true, and_true]
    exact ⟨by simp (decide := true) only [hb26, hb25, hb24, rput, rrow, ↓reduceIte], by simp (decide := true) only [hb26, hb25, hb24, rput, rrow, ↓reduceIte]⟩
  have i0_9 : z25 0 = fun _ => 0 := (fz25 0 (by decide)).trans i0_8
  have i14_9 : z25 14 4 = 128 := (congrFun (fz25 14 (by decide)) 4).trans i14_8
  have i24 : z25 24 1 = 0 := by rw [hz25 24 (by decide), hd24]
  refine r_iconst rfl ?_
  refine r_istore_n rfl (Nat.le_of_ble_eq_true rfl) ?_
  exact lpF 10 0 rfl S26 z25 y25 _ _ sk9 i0_9 i14_9 i24 (fun f hf => absurd hf (by omega)) (by decide +kernel) (by decide +kernel)
