/-! THE CONSTRUCTOR of the class -/
def SkN (S : SS) (q : Nat) : Prop := S.1 = M0.take q ∧ ∀ e ∈ RT, e.1 < q → e.2.2 < q → S.2 e.1 e.2.1 = some e.2.2
theorem M0_len : M0.length = 221 := by decide +kernel
theorem skN_len {S : SS} {q : Nat} (h : SkN S q) (hq : q ≤ 221) : S.1.length = q := by rw [h.1, List.length_take, M0_len]; omega
theorem skN_ob {S : SS} {q c a : Nat} (h : SkN S q) (hc : M0[c]? = some (a, 0)) (hq : c < q) : ob S c a := ⟨by rw [h.1, List.getElem?_take_of_lt hq]; exact hc, M0_lt hc⟩
theorem skN_row {S : SS} {q kd c n : Nat} (h : SkN S q) (hc : M0[c]? = some (kd, n)) (hq : c < q) : row S kd c n := ⟨by rw [h.1, List.getElem?_take_of_lt hq]; exact hc, M0_all _ (List.mem_of_getElem? hc), M0_lt hc⟩
theorem skN_of {S S' : SS} {q q' : Nat} {l : List (Nat × Nat)} (P : Nat × Int × Nat → Prop) (N : List (Nat × Int × Nat)) (h : SkN S q) (h1 : S'.1 = S.1 ++ l) (hl : M0.take q' = M0.take q ++ l) (hd : ∀ e ∈ RT, e.1 < q' → e.2.2 < q' → e ∈ N ∨ (e.1 < q ∧ e.2.2 < q ∧ P e)) (hN : ∀ e ∈ N, S'.2 e.1 e.2.1 = some e.2.2) (hk : ∀ e : Nat × Int × Nat, e.1 < q → P e → S'.2 e.1 e.2.1 = S.2 e.1 e.2.1) : SkN S' q' := by
  refine ⟨by rw [h1, h.1, hl], fun e he h2 h3 => ?_⟩
  rcases hd e he h2 h3 with k | ⟨k1, k2, k3⟩
  · exact hN e k
  · rw [hk e k1 k3]; exact h.2 e he k1 k2
theorem skN_all {S : SS} (h : SkN S 221) : Sk S := by
  refine ⟨by rw [h.1]; exact List.take_of_length_le (by rw [M0_len]; decide), fun e he => h.2 e he ?_ ?_⟩
  · exact (show ∀ e ∈ RT, e.1 < 221 by decide +kernel) e he
  · exact (show ∀ e ∈ RT, e.2.2 < 221 by decide +kernel) e he
theorem tk_F : ∀ k : Nat, k < 10 → M0.take (26 + 15 * k + 15) = M0.take (26 + 15 * k) ++ [(3, 0), (12, 40), (12, 40), (12, 40), (1, 0), (4, 0), (5, 0), (13, 75), (13, 75), (13, 75), (13, 75), (12, 114), (12, 114), (12, 114), (12, 114)] := by decide +kernel
theorem td_F0 : ∀ k : Nat, k < 10 → RT.all (fun e => !decide (e.1 < 26 + 15 * k + 15) || !decide (e.2.2 < 26 + 15 * k + 15) || decide (e ∈ ([(1, (k : Int), 26 + 15 * k), (26 + 15 * k, 0, 26 + 15 * k + 1), (26 + 15 * k, 1, 26 + 15 * k + 2), (26 + 15 * k, 2, 26 + 15 * k + 3), (2, (k : Int), 26 + 15 * k + 4), (26 + 15 * k + 4, 0, 26 + 15 * k), (26 + 15 * k + 4, 1, 5), (26 + 15 * k + 4, 2, 26 + 15 * k + 5), (26 + 15 * k + 4, 3, 26 + 15 * k + 6), (26 + 15 * k + 6, 0, 26 + 15 * k + 7), (26 + 15 * k + 6, 1, 26 + 15 * k + 8), (26 + 15 * k + 6, 2, 26 + 15 * k + 9), (26 + 15 * k + 6, 3, 26 + 15 * k + 10), (26 + 15 * k + 4, 4, 26 + 15 * k + 11), (26 + 15 * k + 4, 5, 26 + 15 * k + 12), (26 + 15 * k + 4, 6, 26 + 15 * k + 13), (26 + 15 * k + 4, 7, 26 + 15 * k + 14)] : List (Nat × Int × Nat))) || (decide (e.1 < 26 + 15 * k) && decide (e.2.2 < 26 + 15 * k) && decide (¬ (e.1 = 1 ∧ e.2.1 = (k : Int))) && decide (¬ (e.1 = 2 ∧ e.2.1 = (k : Int))))) = true := by decide +kernel
theorem td_F (k : Nat) (hk : k < 10) : ∀ e ∈ RT, e.1 < 26 + 15 * k + 15 → e.2.2 < 26 + 15 * k + 15 → e ∈ ([(1, (k : Int), 26 + 15 * k), (26 + 15 * k, 0, 26 + 15 * k + 1), (26 + 15 * k, 1, 26 + 15 * k + 2), (26 + 15 * k, 2, 26 + 15 * k + 3), (2, (k : Int), 26 + 15 * k + 4), (26 + 15 * k + 4, 0, 26 + 15 * k), (26 + 15 * k + 4, 1, 5), (26 + 15 * k + 4, 2, 26 + 15 * k + 5), (26 + 15 * k + 4, 3, 26 + 15 * k + 6), (26 + 15 * k + 6, 0, 26 + 15 * k + 7), (26 + 15 * k + 6, 1, 26 + 15 * k + 8), (26 + 15 * k + 6, 2, 26 + 15 * k + 9), (26 + 15 * k + 6, 3, 26 + 15 * k + 10), (26 + 15 * k + 4, 4, 26 + 15 * k + 11), (26 + 15 * k + 4, 5, 26 + 15 * k + 12), (26 + 15 * k + 4, 6, 26 + 15 * k + 13), (26 + 15 * k + 4, 7, 26 + 15 * k + 14)] : List (Nat × Int × Nat)) ∨ (e.1 < 26 + 15 * k ∧ e.2.2 < 26 + 15 * k ∧ ¬ (e.1 = 1 ∧ e.2.1 = (k : Int)) ∧ ¬ (e.1 = 2 ∧ e.2.1 = (k : Int))) := by
  intro e he h1 h2
  have h := List.all_eq_true.mp (td_F0 k hk) e he
  rw [Bool.or_eq_true, Bool.or_eq_true, Bool.or_eq_true, Bool.and_eq_true, Bool.and_eq_true, Bool.and_eq_true] at h
  rcases h with ((q | q) | q) | ⟨⟨⟨q1, q2⟩, q3⟩, q4⟩
  · rw [decide_eq_true h1] at q; cases q
  · rw [decide_eq_true h2] at q; cases q
  · exact Or.inl (of_decide_eq_true q)
  · exact Or.inr ⟨of_decide_eq_true q1, of_decide_eq_true q2, of_decide_eq_true q3, of_decide_eq_true q4⟩
theorem tk_S : ∀ k : Nat, k < 4 → M0.take (176 + 2 * k + 2) = M0.take (176 + 2 * k) ++ [(7, 0), (13, 40)] := by decide +kernel
theorem td_S0 : ∀ k : Nat, k < 4 → RT.all (fun e => !decide (e.1 < 176 + 2 * k + 2) || !decide (e.2.2 < 176 + 2 * k + 2) || decide (e ∈ ([(3, (k : Int), 176 + 2 * k), (176 + 2 * k, 0, 176 + 2 * k + 1)] : List (Nat × Int × Nat))) || (decide (e.1 < 176 + 2 * k) && decide (e.2.2 < 176 + 2 * k) && decide (¬ (e.1 = 3 ∧ e.2.1 = (k : Int))))) = true := by decide +kernel
theorem td_S (k : Nat) (hk : k < 4) : ∀ e ∈ RT, e.1 < 176 + 2 * k + 2 → e.2.2 < 176 + 2 * k + 2 → e ∈ ([(3, (k : Int), 176 + 2 * k), (176 + 2 * k, 0, 176 + 2 * k + 1)] : List (Nat × Int × Nat)) ∨ (e.1 < 176 + 2 * k ∧ e.2.2 < 176 + 2 * k ∧ ¬ (e.1 = 3 ∧ e.2.1 = (k : Int))) := by
  intro e he h1 h2
  have h := List.all_eq_true.mp (td_S0 k hk) e he
  rw [Bool.or_eq_true, Bool.or_eq_true, Bool.or_eq_true, Bool.and_eq_true, Bool.and_eq_true] at h
  rcases h with ((q | q) | q) | ⟨⟨q1, q2⟩, q3⟩
  · rw [decide_eq_true h1] at q; cases q
  · rw [decide_eq_true h2] at q; cases q
  · exact Or.inl (of_decide_eq_true q)
  · exact Or.inr ⟨of_decide_eq_true q1, of_decide_eq_true q2, of_decide_eq_true q3⟩
set_option maxHeartbeats 1000000 in
theorem k_iter {X : PX} {d : Nat} {S : SS} {z y : ZM} {Q : PQ} {k mc ms : Nat} (hk : k < 10) (hsk : SkN S (26 + 15 * k)) (hmc : 15 ≤ mc) (hms : 1139 ≤ ms) (hN : ∀ (S' : SS) (z' y' : ZM), SkN S' (26 + 15 * k + 15) → (∀ c, c < 26 + 15 * k → z' c = z c) → z' (26 + 15 * k + 6) 4 = 75 → (∀ c, c < 26 + 15 * k → y' c = y c) → ∀ mc' ms' : Nat, mc = mc' + 15 → ms ≤ ms' + 1139 → Run X (d + 2) c_C_init 50 [some (pR 0), some (pI ((k : Int) + 1))] [] S' z' y' mc' ms' Q) : Run X (d + 2) c_C_init 53 [some (pR 0), some (pI (k : Int))] [] S z y mc ms Q := by
  have tk := tk_F k hk
  have td := td_F k hk
  have ob0 : ob S 0 9 := skN_ob hsk rfl (by omega)
  have rw1 : row S 15 1 10 := skN_row hsk rfl (by omega)
  have rw2 : row S 16 2 10 := skN_row hsk rfl (by omega)
  have r00 : S.2 0 0 = some 1 := hsk.2 (0, 0, 1) (by decide +kernel) (by show 0 < _; omega) (by show 1 < _; omega)
  have r01 : S.2 0 1 = some 2 := hsk.2 (0, 1, 2) (by decide +kernel) (by show 0 < _; omega) (by show 2 < _; omega)
  have r04 : S.2 0 4 = some 5 := hsk.2 (0, 4, 5) (by decide +kernel) (by show 0 < _; omega) (by show 5 < _; omega)
  have hl0 := skN_len hsk (by omega)
  obtain ⟨q, hq⟩ : ∃ q, q = 26 + 15 * k := ⟨_, rfl⟩
  rw [← hq] at hsk hN tk td hl0
  have q26 : 26 ≤ q := by omega
  have q200 : q < 200 := by omega
  have mF : MC 42 = 3 := rfl
  have sF : MS 42 = 120 := rfl
  have mV : MC 8 = 10 := rfl
  have sV : MS 8 = 1000 := rfl
  refine r_aload_n rfl rfl ?_
  refine r_getR rfl ob0 r00 ?_
  refine r_iload_n rfl rfl ?_
  refine k_new (q := q) rfl (by omega) (by show 6 ≤ ms; omega) hl0 (by omega) (fun S1 z1 y1 ha1 hb1 hc1 hd1 he1 hf1 => ?_)
  have obf : ob S1 q 3 := ob_nw hl0 ha1 (by unfold xbase; omega)
  have hl1 : S1.1.length = q + 1 := by rw [ha1, List.length_append, hl0]; rfl
  refine r_dupR rfl ?_
  refine r_callI rfl (by decide) rfl rfl rfl (Nat.le_of_ble_eq_true rfl) (by show 3 ≤ mc - 1; omega) (by show 120 ≤ ms - 6; omega) (k_Form obf hl1 (by omega) (fun S2 z2 y2 ha2 hb2 hc2 he2 => ?_))
  have obf2 := ob_ap obf ha2
  have rw12 := row_ap (row_ap rw1 ha1) ha2
  have rw22 := row_ap (row_ap rw2 ha1) ha2
  have ob02 := ob_ap (ob_ap ob0 ha1) ha2
  have hl2 : S2.1.length = q + 4 := by rw [ha2, List.length_append, hl1]; rfl
  refine k_aast rfl rw12 (Or.inl ⟨rfl, rfl⟩) obf2 (by omega) (by omega) (fun S3 ha3 hb3 => ?_)
  have keep3 : ∀ c j, c < q → ¬ (c = 1 ∧ j = (k : Int)) → S3.2 c j = S.2 c j := fun c j h1 h2 => by
    rw [hb3, rput_o h2, hb2, rput_o (fun e => absurd e.1 (Nat.ne_of_lt h1)), rput_o (fun e => absurd e.1 (Nat.ne_of_lt h1)), rput_o (fun e => absurd e.1 (Nat.ne_of_lt h1)), hb1, rrow_o (Nat.ne_of_lt h1)]
  have nq : q ≠ 1 := by omega
  have n3a : S3.2 1 (k : Int) = some q := by rw [hb3, rput_a]
  have n3b : S3.2 q 0 = some (q + 1) := by rw [hb3, rput_o (fun e => nq e.1), hb2, rput_o (fun e => absurd e.2 (by decide)), rput_o (fun e => absurd e.2 (by decide)), rput_a]
  have n3c : S3.2 q 1 = some (q + 2) := by rw [hb3, rput_o (fun e => nq e.1), hb2, rput_o (fun e => absurd e.2 (by decide)), rput_a]
  have n3d : S3.2 q 2 = some (q + 3) := by rw [hb3, rput_o (fun e => nq e.1), hb2, rput_a]
  have ob03 := ob_eq ob02 ha3
  have rw13 := row_eq rw12 ha3
  have rw23 := row_eq rw22 ha3
  have hl3 : S3.1.length = q + 4 := by rw [ha3]; exact hl2
  refine r_aload_n rfl rfl ?_
  refine r_getR rfl ob03 ((keep3 0 1 (by omega) (by omega)).trans r01) ?_
  refine r_iload_n rfl rfl ?_
  refine k_new (q := q + 4) rfl (by omega) (by show 13 ≤ ms - 6 - MS 42; omega) hl3 (by omega) (fun S4 z4 y4 ha4 hb4 hc4 hd4 he4 hf4 => ?_)
  have obc : ob S4 (q + 4) 1 := ob_nw hl3 ha4 (by unfold xbase; omega)
  have hl4 : S4.1.length = q + 5 := by rw [ha4, List.length_append, hl3]; rfl
  have ob04 := ob_ap ob03 ha4
  have rw14 := row_ap rw13 ha4
  have rw24 := row_ap rw23 ha4
  have keep4 : ∀ c j, c < q + 4 → S4.2 c j = S3.2 c j := fun c j h1 => by rw [hb4, rrow_o (Nat.ne_of_lt h1)]
  refine r_dupR rfl ?_
  refine r_aload_n rfl rfl ?_
  refine r_getR rfl ob04 ((keep4 0 0 (by omega)).trans ((keep3 0 0 (by omega) (by omega)).trans r00)) ?_
  refine r_iload_n rfl rfl ?_
  refine r_aald rfl rw14 (by decide) (by omega) (by omega) ((keep4 1 (k : Int) (by omega)).trans n3a) ?_
  refine r_aload_n rfl rfl ?_
  refine r_getR rfl ob04 ((keep4 0 4 (by omega)).trans ((keep3 0 4 (by omega) (by omega)).trans r04)) ?_
  refine r_callI rfl (by decide) rfl rfl rfl (Nat.le_of_ble_eq_true rfl) (by show 10 ≤ mc - 1 - MC 42 - 1; omega) (by show 1000 ≤ ms - 6 - MS 42 - 13; omega) (k_Curve obc (by omega) hl4 (by omega) (fun S5 z5 y5 ha5 hn5 hk5 hc5 h75 he5 => ?_))
  have obc5 := ob_ap obc ha5
  have rw25 := row_ap rw24 ha5
  refine k_aast rfl rw25 (Or.inr (Or.inl ⟨rfl, rfl⟩)) obc5 (by omega) (by omega) (fun S6 ha6 hb6 => ?_)
  obtain ⟨⟨p0, p1, p2, p3⟩, ⟨p4, p5, p6, p7⟩, p8, p9, p10, p11⟩ := hn5
  have up : ∀ c j, ¬ (c = 2 ∧ j = (k : Int)) → S6.2 c j = S5.2 c j := fun c j h => by rw [hb6, rput_o h]
  have up2 : ∀ c j, 3 ≤ c → S6.2 c j = S5.2 c j := fun c j h => up c j (fun e => by omega)
  have up3 : ∀ c j, c < q + 4 → ¬ (c = 2 ∧ j = (k : Int)) → S6.2 c j = S3.2 c j := fun c j h h2 => (up c j h2).trans ((hk5 c j (by omega) (by omega)).trans (keep4 c j h))
  have sk6 : SkN S6 (q + 15) := by
    refine skN_of (fun e => ¬ (e.1 = 1 ∧ e.2.1 = (k : Int)) ∧ ¬ (e.1 = 2 ∧ e.2.1 = (k : Int))) [(1, (k : Int), q), (q, 0, q + 1), (q, 1, q + 2), (q, 2, q + 3), (2, (k : Int), q + 4), (q + 4, 0, q), (q + 4, 1, 5), (q + 4, 2, q + 5), (q + 4, 3, q + 6), (q + 6, 0, q + 7), (q + 6, 1, q + 8), (q + 6, 2, q + 9), (q + 6, 3, q + 10), (q + 4, 4, q + 11), (q + 4, 5, q + 12), (q + 4, 6, q + 13), (q + 4, 7, q + 14)] hsk (by simp only [ha6, ha5, ha4, ha3, ha2, ha1, List.append_assoc, List.cons_append, List.nil_append]) tk td ?_ (fun e h1 h2 => (up3 _ _ (by omega) h2.2).trans (keep3 _ _ h1 h2.1))
    simp only [List.forall_mem_cons, List.not_mem_nil, false_implies, implies_true, and_true]
    exact ⟨(up3 1 _ (by omega) (fun e => absurd e.1 (by decide))).trans n3a, (up3 q _ (by omega) (fun e => by omega)).trans n3b, (up3 q _ (by omega) (fun e => by omega)).trans n3c, (up3 q _ (by omega) (fun e => by omega)).trans n3d, by rw [hb6, rput_a], (up2 _ _ (by omega)).trans p0, (up2 _ _ (by omega)).trans p1, (up2 _ _ (by omega)).trans p2, (up2 _ _ (by omega)).trans p3, (up2 _ _ (by omega)).trans p4, (up2 _ _ (by omega)).trans p5, (up2 _ _ (by omega)).trans p6, (up2 _ _ (by omega)).trans p7, (up2 _ _ (by omega)).trans p8, (up2 _ _ (by omega)).trans p9, (up2 _ _ (by omega)).trans p10, (up2 _ _ (by omega)).trans p11⟩
  refine r_iinc rfl rfl ?_
  refine r_goto rfl ?_
  refine hN S6 z5 y5 sk6 (fun c h => by rw [hc5 c (by omega), hc4 c (by omega), hc2 c (by omega), hc1 c (by omega)]) h75 (fun c h => by rw [he5 c (by omega), he4 c (by omega), he2 c (by omega), he1 c (by omega)]) _ _ ?_ ?_
  · show mc = mc - 1 - MC 42 - 1 - MC 8 + 15
    omega
  · show ms ≤ ms - 6 - MS 42 - 13 - MS 8 + 1139
    omega

theorem k_iterS {X : PX} {d : Nat} {S : SS} {z y : ZM} {Q : PQ} {k mc ms : Nat} (hk : k < 4) (hsk : SkN S (176 + 2 * k)) (hmc : 2 ≤ mc) (hms : 43 ≤ ms) (hN : ∀ (S' : SS) (z' y' : ZM), SkN S' (176 + 2 * k + 2) → (∀ c, c < 176 + 2 * k → z' c = z c) → z' (176 + 2 * k) 1 = -1 → z' (176 + 2 * k) 2 = 0 → (∀ c, c < 176 + 2 * k → y' c = y c) → (y' (176 + 2 * k + 1) = fun _ => 0) → ∀ mc' ms' : Nat, mc = mc' + 2 → ms ≤ ms' + 43 → Run X (d + 2) c_C_init 77 [some (pR 0), some (pI ((k : Int) + 1))] [] S' z' y' mc' ms' Q) : Run X (d + 2) c_C_init 80 [some (pR 0), some (pI (k : Int))] [] S z y mc ms Q := by
  have tk := tk_S k hk
  have td := td_S k hk
  have ob0 : ob S 0 9 := skN_ob hsk rfl (by omega)
  have rw1 : row S 17 3 4 := skN_row hsk rfl (by omega)
  have r02 : S.2 0 2 = some 3 := hsk.2 (0, 2, 3) (by decide +kernel) (by show 0 < _; omega) (by show 3 < _; omega)
  have hl0 := skN_len hsk (by omega)
  obtain ⟨q, hq⟩ : ∃ q, q = 176 + 2 * k := ⟨_, rfl⟩
  rw [← hq] at hsk hN tk td hl0
  have q26 : 26 ≤ q := by omega
  have q200 : q < 200 := by omega
  have mF : MC 70 = 1 := rfl
  have sF : MS 70 = 40 := rfl
  refine r_aload_n rfl rfl ?_
  refine r_getR rfl ob0 r02 ?_
  refine r_iload_n rfl rfl ?_
  refine k_new (q := q) rfl (by omega) (by show 3 ≤ ms; omega) hl0 (by omega) (fun S1 z1 y1 ha1 hb1 hc1 hd1 he1 hf1 => ?_)
  have obf : ob S1 q 7 := ob_nw hl0 ha1 (by unfold xbase; omega)
  have hl1 : S1.1.length = q + 1 := by rw [ha1, List.length_append, hl0]; rfl
  refine r_dupR rfl ?_
  refine r_callI rfl (by decide) rfl rfl rfl (Nat.le_of_ble_eq_true rfl) (by show 1 ≤ mc - 1; omega) (by show 40 ≤ ms - 3; omega) (k_Sheet obf (by omega) hl1 (by omega) (fun S2 z2 y2 ha2 hb2 hc2 hs1 hs2 he2 hy2 => ?_))
  have obf2 := ob_ap obf ha2
  have rw12 := row_ap (row_ap rw1 ha1) ha2
  refine k_aast rfl rw12 (Or.inr (Or.inr ⟨rfl, rfl⟩)) obf2 (by omega) (by omega) (fun S3 ha3 hb3 => ?_)
  have keep3 : ∀ c j, c < q → ¬ (c = 3 ∧ j = (k : Int)) → S3.2 c j = S.2 c j := fun c j h1 h2 => by
    rw [hb3, rput_o h2, hb2, rput_o (fun e => absurd e.1 (Nat.ne_of_lt h1)), hb1, rrow_o (Nat.ne_of_lt h1)]
  have nq : q ≠ 3 := by omega
  have sk3 : SkN S3 (q + 2) := by
    refine skN_of (fun e => ¬ (e.1 = 3 ∧ e.2.1 = (k : Int))) [(3, (k : Int), q), (q, 0, q + 1)] hsk (by simp only [ha3, ha2, ha1, List.append_assoc, List.cons_append, List.nil_append]) tk td ?_ (fun e h1 h2 => keep3 _ _ h1 h2)
    simp only [List.forall_mem_cons, List.not_mem_nil, false_implies, implies_true, and_true]
    exact ⟨by rw [hb3, rput_a], by rw [hb3, rput_o (fun e => nq e.1), hb2, rput_a]⟩
  refine r_iinc rfl rfl ?_
  refine r_goto rfl ?_
  refine hN S3 z2 y2 sk3 (fun c h => by rw [hc2 c (by omega) (by omega), hc1 c (by omega)]) hs1 (by rw [hs2, hd1]) (fun c h => by rw [he2 c (by omega), he1 c (by omega)]) hy2 _ _ ?_ ?_
  · show mc = mc - 1 - MC 70 + 2
    omega
  · show ms ≤ ms - 3 - MS 70 + 43
    omega
