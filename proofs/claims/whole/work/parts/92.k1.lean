/-! THE CONSTRUCTORS -/
section KR
variable {X : PX} {d : Nat} {C : List PI} {pc nx a b : Nat} {c : Int} {ls : List (Option PV)} {st : List PV} {S : SS} {zI zL : ZM} {mc ms : Nat} {Q : PQ}
theorem zrow_o {z : ZM} {q c : Nat} {f : Int → Int} (h : c ≠ q) : zrow z q f c = z c := by funext k; unfold zrow; rw [if_neg h]
theorem zrow_a {z : ZM} {q : Nat} {f : Int → Int} : zrow z q f q = f := by funext k; unfold zrow; rw [if_pos rfl]
theorem k_new {t q : Nat} (h : C[pc]? = some (.new t, nx, a, b, c)) (h2 : 1 ≤ mc) (h3 : NF a ≤ ms) (hl : S.1.length = q) (hq : q < 10000) (k : ∀ (S' : SS) (z z2 : ZM), S'.1 = S.1 ++ [(a, 0)] → S'.2 = rrow S.2 q → (∀ c, c ≠ q → z c = zI c) → (z q = fun _ => 0) → (∀ c, c ≠ q → z2 c = zL c) → (z2 q = fun _ => 0) → Run X d C nx ls (pR q :: st) S' z z2 (mc - 1) (ms - NF a) Q) : Run X d C pc ls st S zI zL mc ms Q := by
  subst hl
  exact r_new h h2 h3 hq (k _ _ _ rfl rfl (fun c hc => zrow_o hc) zrow_a (fun c hc => zrow_o hc) zrow_a)
theorem k_newa {t : ArrayType} {n : Int} {m q : Nat} (h : C[pc]? = some (.newarray t, nx, a, b, c)) (hn : n = m) (h1 : m ≤ 10000) (h2 : 1 ≤ mc) (h3 : m ≤ ms) (hl : S.1.length = q) (hq : q < 10000) (k : ∀ (S' : SS) (z z2 : ZM), S'.1 = S.1 ++ [(a, m)] → S'.2 = S.2 → (∀ c, c ≠ q → z c = zI c) → (z q = fun _ => 0) → (∀ c, c ≠ q → z2 c = zL c) → (z2 q = fun _ => 0) → Run X d C nx ls (pR q :: st) S' z z2 (mc - 1) (ms - m) Q) : Run X d C pc ls (pI n :: st) S zI zL mc ms Q := by
  subst hl
  exact r_newa h hn h1 h2 h3 hq (k _ _ _ rfl rfl (fun c hc => zrow_o hc) zrow_a (fun c hc => zrow_o hc) zrow_a)
theorem k_newq {t : Nat} {n : Int} {m q : Nat} (h : C[pc]? = some (.anewarray t, nx, a, b, c)) (hn : n = m) (h1 : m ≤ 10000) (h2 : 1 ≤ mc) (h3 : m ≤ ms) (hl : S.1.length = q) (hq : q < 10000) (k : ∀ (S' : SS), S'.1 = S.1 ++ [(a, m)] → S'.2 = rrow S.2 q → Run X d C nx ls (pR q :: st) S' zI zL (mc - 1) (ms - m) Q) : Run X d C pc ls (pI n :: st) S zI zL mc ms Q := by
  subst hl
  exact r_newq h hn h1 h2 h3 hq (k _ rfl rfl)
theorem k_putR {n o v : Nat} (h : C[pc]? = some (.putfield n, nx, a, 12, c)) (ho : ob S o a) (k : ∀ (S' : SS), S'.1 = S.1 → S'.2 = rput S.2 o c (some v) → Run X d C nx ls st S' zI zL mc ms Q) : Run X d C pc ls (pR v :: pR o :: st) S zI zL mc ms Q := r_putR h ho (k _ rfl rfl)
theorem k_aast {kd q o n v : Nat} {i : Int} (h : C[pc]? = some (.aastore, nx, a, b, c)) (ho : row S kd o n) (hk : (kd = 15 ∧ q = 3) ∨ (kd = 16 ∧ q = 1) ∨ (kd = 17 ∧ q = 7)) (hv : ob S v q) (h0 : 0 ≤ i) (h1 : i < n) (k : ∀ (S' : SS), S'.1 = S.1 → S'.2 = rput S.2 o i (some v) → Run X d C nx ls st S' zI zL mc ms Q) : Run X d C pc ls (pR v :: pI i :: pR o :: st) S zI zL mc ms Q := r_aast h ho hk hv h0 h1 (k _ rfl rfl)
end KR
theorem ob_ap {S S' : SS} {o k : Nat} {l : List (Nat × Nat)} (h : ob S o k) (e : S'.1 = S.1 ++ l) : ob S' o k := ⟨by rw [e]; exact List.getElem?_append_left (List.getElem?_eq_some_iff.mp h.1).1 ▸ h.1, h.2⟩
theorem ob_eq {S S' : SS} {o k : Nat} (h : ob S o k) (e : S'.1 = S.1) : ob S' o k := ⟨by rw [e]; exact h.1, h.2⟩
theorem row_ap {S S' : SS} {kd o n : Nat} {l : List (Nat × Nat)} (h : row S kd o n) (e : S'.1 = S.1 ++ l) : row S' kd o n := ⟨by rw [e]; exact List.getElem?_append_left (List.getElem?_eq_some_iff.mp h.1).1 ▸ h.1, h.2⟩
theorem row_eq {S S' : SS} {kd o n : Nat} (h : row S kd o n) (e : S'.1 = S.1) : row S' kd o n := ⟨by rw [e]; exact h.1, h.2⟩
theorem ob_nw {S S' : SS} {q k : Nat} (hl : S.1.length = q) (e : S'.1 = S.1 ++ [(k, 0)]) (hq : q < xbase) : ob S' q k := ⟨by rw [e, ← hl]; exact List.getElem?_concat_length, hq⟩
theorem row_nw {S S' : SS} {q kd n : Nat} (hl : S.1.length = q) (e : S'.1 = S.1 ++ [(kd, n)]) (hq : q < xbase) (hn : n ≤ 10000) : row S' kd q n := ⟨by rw [e, ← hl]; exact List.getElem?_concat_length, hn, hq⟩
theorem rput_a {f : Nat → Int → Option Nat} {o : Nat} {c : Int} {v : Option Nat} : rput f o c v o c = v := by unfold rput; rw [if_pos ⟨rfl, rfl⟩]
theorem rput_o {f : Nat → Int → Option Nat} {o o' : Nat} {c c' : Int} {v : Option Nat} (h : ¬ (o' = o ∧ c' = c)) : rput f o c v o' c' = f o' c' := by unfold rput; rw [if_neg h]
theorem rrow_o {f : Nat → Int → Option Nat} {o o' : Nat} {c : Int} (h : o' ≠ o) : rrow f o o' c = f o' c := by unfold rrow; rw [if_neg h]
theorem k_Point {X : PX} {d : Nat} {S : SS} {zI zL : ZM} {Q : PQ} {p : Nat} (hp : ob S p 4) (hQ : ∀ z2, (∀ c, c ≠ p → z2 c = zL c) → Q none S zI z2) : wpM X (d + 1) fPoint_init [pR p] S zI zL Q := by
  refine wp_in (C := c_Point_init) (ls := [some (pR p)]) rfl rfl rfl rfl rfl ?_
  refine r_aload_n rfl rfl ?_
  refine r_obj rfl (Nat.le_of_ble_eq_true rfl) ?_
  refine r_aload_n rfl rfl ?_
  refine r_lconst rfl ?_
  refine r_putL rfl hp ?_
  refine r_aload_n rfl rfl ?_
  refine r_lconst rfl ?_
  refine r_putL rfl hp ?_
  refine r_ret rfl ?_
  exact hQ _ (fun c hc => by rw [zput_row hc, zput_row hc])
theorem k_Form {X : PX} {d : Nat} {S : SS} {zI zL : ZM} {Q : PQ} {o q : Nat} (ho : ob S o 3) (hl : S.1.length = q) (hq : q + 20 < 10000) (hQ : ∀ (S' : SS) (z z2 : ZM), S'.1 = S.1 ++ [(12, 40), (12, 40), (12, 40)] → S'.2 = rput (rput (rput S.2 o 0 (some q)) o 1 (some (q + 1))) o 2 (some (q + 2)) → (∀ c, c < q → z c = zI c) → (∀ c, c < q → z2 c = zL c) → Q none S' z z2) : wpM X (d + 1) fForm_init [pR o] S zI zL Q := by
  refine wp_in (C := c_Form_init) (ls := [some (pR o)]) rfl rfl rfl rfl rfl ?_
  have bn0 : q < 10000 := by omega
  have bn1 : q + 1 < 10000 := by omega
  have bn2 : q + 2 < 10000 := by omega
  have fz0 : ∀ c, c < q → zI c = zI c := fun c _ => rfl
  have fy0 : ∀ c, c < q → zL c = zL c := fun c _ => rfl
  refine r_aload_n rfl rfl ?_
  refine r_obj rfl (Nat.le_of_ble_eq_true rfl) ?_
  refine r_aload_n rfl rfl ?_
  refine r_bipush rfl ?_
  refine k_newa rfl rfl (by decide) (by decide +kernel) (by decide +kernel) hl bn0 (fun S1 z1 y1 ha1 hb1 hc1 hd1 he1 hf1 => ?_)
  have hl1 : S1.1.length = q + 1 := by rw [ha1, List.length_append, hl]; rfl
  have obo_1 := ob_ap ho ha1
  have fz1 : ∀ c, c < q → z1 c = zI c := fun c h => (hc1 c (Nat.ne_of_lt h)).trans (fz0 c h)
  have fy1 : ∀ c, c < q → y1 c = zL c := fun c h => (he1 c (Nat.ne_of_lt h)).trans (fy0 c h)
  refine k_putR rfl obo_1 (fun S2 ha2 hb2 => ?_)
  have hl2 : S2.1.length = q + 1 := by rw [ha2]; exact hl1
  have obo_2 := ob_eq obo_1 ha2
  refine r_aload_n rfl rfl ?_
  refine r_bipush rfl ?_
  refine k_newa rfl rfl (by decide) (by decide +kernel) (by decide +kernel) hl2 bn1 (fun S3 z3 y3 ha3 hb3 hc3 hd3 he3 hf3 => ?_)
  have hl3 : S3.1.length = q + 2 := by rw [ha3, List.length_append, hl2]; rfl
  have obo_3 := ob_ap obo_2 ha3
  have fz3 : ∀ c, c < q → z3 c = zI c := fun c h => (hc3 c (Nat.ne_of_lt (Nat.lt_of_lt_of_le h (Nat.le_add_right _ _)))).trans (fz1 c h)
  have fy3 : ∀ c, c < q → y3 c = zL c := fun c h => (he3 c (Nat.ne_of_lt (Nat.lt_of_lt_of_le h (Nat.le_add_right _ _)))).trans (fy1 c h)
  refine k_putR rfl obo_3 (fun S4 ha4 hb4 => ?_)
  have hl4 : S4.1.length = q + 2 := by rw [ha4]; exact hl3
  have obo_4 := ob_eq obo_3 ha4
  refine r_aload_n rfl rfl ?_
  refine r_bipush rfl ?_
  refine k_newa rfl rfl (by decide) (by decide +kernel) (by decide +kernel) hl4 bn2 (fun S5 z5 y5 ha5 hb5 hc5 hd5 he5 hf5 => ?_)
  have hl5 : S5.1.length = q + 3 := by rw [ha5, List.length_append, hl4]; rfl
  have obo_5 := ob_ap obo_4 ha5
  have fz5 : ∀ c, c < q → z5 c = zI c := fun c h => (hc5 c (Nat.ne_of_lt (Nat.lt_of_lt_of_le h (Nat.le_add_right _ _)))).trans (fz3 c h)
  have fy5 : ∀ c, c < q → y5 c = zL c := fun c h => (he5 c (Nat.ne_of_lt (Nat.lt_of_lt_of_le h (Nat.le_add_right _ _)))).trans (fy3 c h)
  refine k_putR rfl obo_5 (fun S6 ha6 hb6 => ?_)
  have hl6 : S6.1.length = q + 3 := by rw [ha6]; exact hl5
  have obo_6 := ob_eq obo_5 ha6
  refine r_ret rfl ?_
  refine hQ S6 z5 y5 ?_ ?_ (fun c hc => by rw [hc5 c (by omega), hc3 c (by omega), hc1 c (by omega)]) (fun c hc => by rw [he5 c (by omega), he3 c (by omega), he1 c (by omega)])
  · simp only [ha6, ha5, ha4, ha3, ha2, ha1, List.append_assoc, List.cons_append, List.nil_append]
  · rw [hb6, hb5, hb4, hb3, hb2, hb1]
theorem k_Ring {X : PX} {d : Nat} {S : SS} {zI zL : ZM} {Q : PQ} {o q : Nat} (ho : ob S o 6) (hl : S.1.length = q) (hq : q + 20 < 10000) (hQ : ∀ (S' : SS) (z z2 : ZM), S'.1 = S.1 ++ [(12, 81), (12, 81), (12, 81)] → S'.2 = rput (rput (rput S.2 o 0 (some q)) o 1 (some (q + 1))) o 2 (some (q + 2)) → (∀ c, c < q → z c = zI c) → (∀ c, c < q → z2 c = zL c) → Q none S' z z2) : wpM X (d + 1) fRing_init [pR o] S zI zL Q := by
  refine wp_in (C := c_Ring_init) (ls := [some (pR o)]) rfl rfl rfl rfl rfl ?_
  have bn0 : q < 10000 := by omega
  have bn1 : q + 1 < 10000 := by omega
  have bn2 : q + 2 < 10000 := by omega
  have fz0 : ∀ c, c < q → zI c = zI c := fun c _ => rfl
  have fy0 : ∀ c, c < q → zL c = zL c := fun c _ => rfl
  refine r_aload_n rfl rfl ?_
  refine r_obj rfl (Nat.le_of_ble_eq_true rfl) ?_
  refine r_aload_n rfl rfl ?_
  refine r_bipush rfl ?_
  refine k_newa rfl rfl (by decide) (by decide +kernel) (by decide +kernel) hl bn0 (fun S1 z1 y1 ha1 hb1 hc1 hd1 he1 hf1 => ?_)
  have hl1 : S1.1.length = q + 1 := by rw [ha1, List.length_append, hl]; rfl
  have obo_1 := ob_ap ho ha1
  have fz1 : ∀ c, c < q → z1 c = zI c := fun c h => (hc1 c (Nat.ne_of_lt h)).trans (fz0 c h)
  have fy1 : ∀ c, c < q → y1 c = zL c := fun c h => (he1 c (Nat.ne_of_lt h)).trans (fy0 c h)
  refine k_putR rfl obo_1 (fun S2 ha2 hb2 => ?_)
  have hl2 : S2.1.length = q + 1 := by rw [ha2]; exact hl1
  have obo_2 := ob_eq obo_1 ha2
  refine r_aload_n rfl rfl ?_
  refine r_bipush rfl ?_
  refine k_newa rfl rfl (by decide) (by decide +kernel) (by decide +kernel) hl2 bn1 (fun S3 z3 y3 ha3 hb3 hc3 hd3 he3 hf3 => ?_)
  have hl3 : S3.1.length = q + 2 := by rw [ha3, List.length_append, hl2]; rfl
  have obo_3 := ob_ap obo_2 ha3
  have fz3 : ∀ c, c < q → z3 c = zI c := fun c h => (hc3 c (Nat.ne_of_lt (Nat.lt_of_lt_of_le h (Nat.le_add_right _ _)))).trans (fz1 c h)
  have fy3 : ∀ c, c < q → y3 c = zL c := fun c h => (he3 c (Nat.ne_of_lt (Nat.lt_of_lt_of_le h (Nat.le_add_right _ _)))).trans (fy1 c h)
  refine k_putR rfl obo_3 (fun S4 ha4 hb4 => ?_)
  have hl4 : S4.1.length = q + 2 := by rw [ha4]; exact hl3
  have obo_4 := ob_eq obo_3 ha4
  refine r_aload_n rfl rfl ?_
  refine r_bipush rfl ?_
  refine k_newa rfl rfl (by decide) (by decide +kernel) (by decide +kernel) hl4 bn2 (fun S5 z5 y5 ha5 hb5 hc5 hd5 he5 hf5 => ?_)
  have hl5 : S5.1.length = q + 3 := by rw [ha5, List.length_append, hl4]; rfl
  have obo_5 := ob_ap obo_4 ha5
  have fz5 : ∀ c, c < q → z5 c = zI c := fun c h => (hc5 c (Nat.ne_of_lt (Nat.lt_of_lt_of_le h (Nat.le_add_right _ _)))).trans (fz3 c h)
  have fy5 : ∀ c, c < q → y5 c = zL c := fun c h => (he5 c (Nat.ne_of_lt (Nat.lt_of_lt_of_le h (Nat.le_add_right _ _)))).trans (fy3 c h)
  refine k_putR rfl obo_5 (fun S6 ha6 hb6 => ?_)
  have hl6 : S6.1.length = q + 3 := by rw [ha6]; exact hl5
  have obo_6 := ob_eq obo_5 ha6
  refine r_ret rfl ?_
  refine hQ S6 z5 y5 ?_ ?_ (fun c hc => by rw [hc5 c (by omega), hc3 c (by omega), hc1 c (by omega)]) (fun c hc => by rw [he5 c (by omega), he3 c (by omega), he1 c (by omega)])
  · simp only [ha6, ha5, ha4, ha3, ha2, ha1, List.append_assoc, List.cons_append, List.nil_append]
  · rw [hb6, hb5, hb4, hb3, hb2, hb1]
theorem k_Draft {X : PX} {d : Nat} {S : SS} {zI zL : ZM} {Q : PQ} {o q : Nat} (ho : ob S o 2) (hl : S.1.length = q) (hq : q + 20 < 10000) (hQ : ∀ (S' : SS) (z z2 : ZM), S'.1 = S.1 ++ [(12, 81)] → S'.2 = rput S.2 o 0 (some q) → (∀ c, c < q → z c = zI c) → (∀ c, c < q → z2 c = zL c) → Q none S' z z2) : wpM X (d + 1) fDraft_init [pR o] S zI zL Q := by
  refine wp_in (C := c_Draft_init) (ls := [some (pR o)]) rfl rfl rfl rfl rfl ?_
  have bn0 : q < 10000 := by omega
  have fz0 : ∀ c, c < q → zI c = zI c := fun c _ => rfl
  have fy0 : ∀ c, c < q → zL c = zL c := fun c _ => rfl
  refine r_aload_n rfl rfl ?_
  refine r_obj rfl (Nat.le_of_ble_eq_true rfl) ?_
  refine r_aload_n rfl rfl ?_
  refine r_bipush rfl ?_
  refine k_newa rfl rfl (by decide) (by decide +kernel) (by decide +kernel) hl bn0 (fun S1 z1 y1 ha1 hb1 hc1 hd1 he1 hf1 => ?_)
  have hl1 : S1.1.length = q + 1 := by rw [ha1, List.length_append, hl]; rfl
  have obo_1 := ob_ap ho ha1
  have fz1 : ∀ c, c < q → z1 c = zI c := fun c h => (hc1 c (Nat.ne_of_lt h)).trans (fz0 c h)
  have fy1 : ∀ c, c < q → y1 c = zL c := fun c h => (he1 c (Nat.ne_of_lt h)).trans (fy0 c h)
  refine k_putR rfl obo_1 (fun S2 ha2 hb2 => ?_)
  have hl2 : S2.1.length = q + 1 := by rw [ha2]; exact hl1
  have obo_2 := ob_eq obo_1 ha2
  refine r_ret rfl ?_
  refine hQ S2 z1 y1 ?_ ?_ (fun c hc => by rw [hc1 c (by omega)]) (fun c hc => by rw [he1 c (by omega)])
  · simp only [ha2, ha1, List.append_assoc, List.cons_append, List.nil_append]
  · rw [hb2, hb1]
theorem k_Trace {X : PX} {d : Nat} {S : SS} {zI zL : ZM} {Q : PQ} {o q : Nat} (ho : ob S o 8) (hl : S.1.length = q) (hq : q + 20 < 10000) (hQ : ∀ (S' : SS) (z z2 : ZM), S'.1 = S.1 ++ [(12, 40)] → S'.2 = rput S.2 o 0 (some q) → (∀ c, c < q → z c = zI c) → (∀ c, c < q → z2 c = zL c) → Q none S' z z2) : wpM X (d + 1) fTrace_init [pR o] S zI zL Q := by
  refine wp_in (C := c_Trace_init) (ls := [some (pR o)]) rfl rfl rfl rfl rfl ?_
  have bn0 : q < 10000 := by omega
  have fz0 : ∀ c, c < q → zI c = zI c := fun c _ => rfl
  have fy0 : ∀ c, c < q → zL c = zL c := fun c _ => rfl
  refine r_aload_n rfl rfl ?_
  refine r_obj rfl (Nat.le_of_ble_eq_true rfl) ?_
  refine r_aload_n rfl rfl ?_
  refine r_bipush rfl ?_
  refine k_newa rfl rfl (by decide) (by decide +kernel) (by decide +kernel) hl bn0 (fun S1 z1 y1 ha1 hb1 hc1 hd1 he1 hf1 => ?_)
  have hl1 : S1.1.length = q + 1 := by rw [ha1, List.length_append, hl]; rfl
  have obo_1 := ob_ap ho ha1
  have fz1 : ∀ c, c < q → z1 c = zI c := fun c h => (hc1 c (Nat.ne_of_lt h)).trans (fz0 c h)
  have fy1 : ∀ c, c < q → y1 c = zL c := fun c h => (he1 c (Nat.ne_of_lt h)).trans (fy0 c h)
  refine k_putR rfl obo_1 (fun S2 ha2 hb2 => ?_)
  have hl2 : S2.1.length = q + 1 := by rw [ha2]; exact hl1
  have obo_2 := ob_eq obo_1 ha2
  refine r_ret rfl ?_
  refine hQ S2 z1 y1 ?_ ?_ (fun c hc => by rw [hc1 c (by omega)]) (fun c hc => by rw [he1 c (by omega)])
  · simp only [ha2, ha1, List.append_assoc, List.cons_append, List.nil_append]
  · rw [hb2, hb1]
theorem k_Sheet {X : PX} {d : Nat} {S : SS} {zI zL : ZM} {Q : PQ} {o q : Nat} (ho : ob S o 7) (hoq : o < q) (hl : S.1.length = q) (hq : q + 20 < 10000) (hQ : ∀ (S' : SS) (z z2 : ZM), S'.1 = S.1 ++ [(13, 40)] → S'.2 = rput S.2 o 0 (some q) → (∀ c, c < q → c ≠ o → z c = zI c) → z o 1 = -1 → z o 2 = zI o 2 → (∀ c, c < q → z2 c = zL c) → (z2 q = fun _ => 0) → Q none S' z z2) : wpM X (d + 1) fSheet_init [pR o] S zI zL Q := by
  refine wp_in (C := c_Sheet_init) (ls := [some (pR o)]) rfl rfl rfl rfl rfl ?_
  have bn0 : q < 10000 := by omega
  have fz0 : ∀ c, c < q → zI c = zI c := fun c _ => rfl
  have fy0 : ∀ c, c < q → zL c = zL c := fun c _ => rfl
  refine r_aload_n rfl rfl ?_
  refine r_obj rfl (Nat.le_of_ble_eq_true rfl) ?_
  refine r_aload_n rfl rfl ?_
  refine r_bipush rfl ?_
  refine k_newa rfl rfl (by decide) (by decide +kernel) (by decide +kernel) hl bn0 (fun S1 z1 y1 ha1 hb1 hc1 hd1 he1 hf1 => ?_)
  have hl1 : S1.1.length = q + 1 := by rw [ha1, List.length_append, hl]; rfl
  have obo_1 := ob_ap ho ha1
  have fz1 : ∀ c, c < q → z1 c = zI c := fun c h => (hc1 c (Nat.ne_of_lt h)).trans (fz0 c h)
  have fy1 : ∀ c, c < q → y1 c = zL c := fun c h => (he1 c (Nat.ne_of_lt h)).trans (fy0 c h)
  refine k_putR rfl obo_1 (fun S2 ha2 hb2 => ?_)
  have hl2 : S2.1.length = q + 1 := by rw [ha2]; exact hl1
  have obo_2 := ob_eq obo_1 ha2
  refine r_aload_n rfl rfl ?_
  refine r_iconst rfl ?_
  refine r_putI rfl obo_2 ?_
  obtain ⟨z3, hz3⟩ : ∃ w, w = zput (z1) (o) 1 (-1) := ⟨_, rfl⟩
  rw [← hz3]
  have hp3 : ∀ c, c ≠ o → z3 c = z1 c := fun c hc => by rw [hz3]; exact zput_row hc
  refine r_ret rfl ?_
  refine hQ S2 z3 y1 (ha2.trans ha1) (hb2.trans (by rw [hb1])) (fun c c0 c1 => by rw [hp3 c c1, hc1 c (by omega)]) (by rw [hz3, zput_at]) (by rw [hz3, zput_off (by decide), hc1 o (by omega)]) (fun c c0 => he1 c (by omega)) hf1
theorem k_Points75 {X : PX} {d : Nat} {S : SS} {zI zL : ZM} {Q : PQ} {o q : Nat} (ho : ob S o 5) (hoq : o < q) (hl : S.1.length = q) (hq : q + 20 < 10000) (hQ : ∀ (S' : SS) (z z2 : ZM), S'.1 = S.1 ++ [(13, 75), (13, 75), (13, 75), (13, 75)] → S'.2 = rput (rput (rput (rput S.2 o 0 (some q)) o 1 (some (q + 1))) o 2 (some (q + 2))) o 3 (some (q + 3)) → (∀ c, c < q → c ≠ o → z c = zI c) → z o 4 = 75 → (∀ c, c < q → z2 c = zL c) → Q none S' z z2) : wpM X (d + 1) fPoints_init [pR o, pI 75] S zI zL Q := by
  refine wp_in (C := c_Points_init) (ls := [some (pR o), some (pI 75)]) rfl rfl rfl rfl rfl ?_
  have bn0 : q < 10000 := by omega
  have bn1 : q + 1 < 10000 := by omega
  have bn2 : q + 2 < 10000 := by omega
  have bn3 : q + 3 < 10000 := by omega
  have fz0 : ∀ c, c < q → zI c = zI c := fun c _ => rfl
  have fy0 : ∀ c, c < q → zL c = zL c := fun c _ => rfl
  refine r_aload_n rfl rfl ?_
  refine r_obj rfl (Nat.le_of_ble_eq_true rfl) ?_
  refine r_aload_n rfl rfl ?_
  refine r_iload_n rfl rfl ?_
  refine r_putIf rfl ho ?_
  obtain ⟨z1, hz1⟩ : ∃ w, w = zput (zI) (o) 4 (75) := ⟨_, rfl⟩
  rw [← hz1]
  have hp1 : ∀ c, c ≠ o → z1 c = zI c := fun c hc => by rw [hz1]; exact zput_row hc
  refine r_aload_n rfl rfl ?_
  refine r_iload_n rfl rfl ?_
  refine k_newa rfl rfl (by decide) (by decide +kernel) (by decide +kernel) hl bn0 (fun S2 z2 y2 ha2 hb2 hc2 hd2 he2 hf2 => ?_)
  have hl2 : S2.1.length = q + 1 := by rw [ha2, List.length_append, hl]; rfl
  have obo_2 := ob_ap ho ha2
  have fy2 : ∀ c, c < q → y2 c = zL c := fun c h => (he2 c (Nat.ne_of_lt h)).trans (fy0 c h)
  refine k_putR rfl obo_2 (fun S3 ha3 hb3 => ?_)
  have hl3 : S3.1.length = q + 1 := by rw [ha3]; exact hl2
  have obo_3 := ob_eq obo_2 ha3
  refine r_aload_n rfl rfl ?_
  refine r_iload_n rfl rfl ?_
  refine k_newa rfl rfl (by decide) (by decide +kernel) (by decide +kernel) hl3 bn1 (fun S4 z4 y4 ha4 hb4 hc4 hd4 he4 hf4 => ?_)
  have hl4 : S4.1.length = q + 2 := by rw [ha4, List.length_append, hl3]; rfl
  have obo_4 := ob_ap obo_3 ha4
  have fy4 : ∀ c, c < q → y4 c = zL c := fun c h => (he4 c (Nat.ne_of_lt (Nat.lt_of_lt_of_le h (Nat.le_add_right _ _)))).trans (fy2 c h)
  refine k_putR rfl obo_4 (fun S5 ha5 hb5 => ?_)
  have hl5 : S5.1.length = q + 2 := by rw [ha5]; exact hl4
  have obo_5 := ob_eq obo_4 ha5
  refine r_aload_n rfl rfl ?_
  refine r_iload_n rfl rfl ?_
  refine k_newa rfl rfl (by decide) (by decide +kernel) (by decide +kernel) hl5 bn2 (fun S6 z6 y6 ha6 hb6 hc6 hd6 he6 hf6 => ?_)
  have hl6 : S6.1.length = q + 3 := by rw [ha6, List.length_append, hl5]; rfl
  have obo_6 := ob_ap obo_5 ha6
  have fy6 : ∀ c, c < q → y6 c = zL c := fun c h => (he6 c (Nat.ne_of_lt (Nat.lt_of_lt_of_le h (Nat.le_add_right _ _)))).trans (fy4 c h)
  refine k_putR rfl obo_6 (fun S7 ha7 hb7 => ?_)
  have hl7 : S7.1.length = q + 3 := by rw [ha7]; exact hl6
  have obo_7 := ob_eq obo_6 ha7
  refine r_aload_n rfl rfl ?_
  refine r_iload_n rfl rfl ?_
  refine k_newa rfl rfl (by decide) (by decide +kernel) (by decide +kernel) hl7 bn3 (fun S8 z8 y8 ha8 hb8 hc8 hd8 he8 hf8 => ?_)
  have hl8 : S8.1.length = q + 4 := by rw [ha8, List.length_append, hl7]; rfl
  have obo_8 := ob_ap obo_7 ha8
  have fy8 : ∀ c, c < q → y8 c = zL c := fun c h => (he8 c (Nat.ne_of_lt (Nat.lt_of_lt_of_le h (Nat.le_add_right _ _)))).trans (fy6 c h)
  refine k_putR rfl obo_8 (fun S9 ha9 hb9 => ?_)
  have hl9 : S9.1.length = q + 4 := by rw [ha9]; exact hl8
  have obo_9 := ob_eq obo_8 ha9
  refine r_ret rfl ?_
  refine hQ S9 z8 y8 ?_ ?_ (fun c c0 c1 => by rw [hc8 c (by omega), hc6 c (by omega), hc4 c (by omega), hc2 c (by omega), hp1 c c1]) (by rw [hc8 o (by omega), hc6 o (by omega), hc4 o (by omega), hc2 o (by omega), hz1, zput_at]) (fun c c0 => by rw [he8 c (by omega), he6 c (by omega), he4 c (by omega), he2 c (by omega)])
  · simp only [ha9, ha8, ha7, ha6, ha5, ha4, ha3, ha2, List.append_assoc, List.cons_append, List.nil_append]
  · rw [hb9, hb8, hb7, hb6, hb5, hb4, hb3, hb2]
theorem k_Points128 {X : PX} {d : Nat} {S : SS} {zI zL : ZM} {Q : PQ} {o q : Nat} (ho : ob S o 5) (hoq : o < q) (hl : S.1.length = q) (hq : q + 20 < 10000) (hQ : ∀ (S' : SS) (z z2 : ZM), S'.1 = S.1 ++ [(13, 128), (13, 128), (13, 128), (13, 128)] → S'.2 = rput (rput (rput (rput S.2 o 0 (some q)) o 1 (some (q + 1))) o 2 (some (q + 2))) o 3 (some (q + 3)) → (∀ c, c < q → c ≠ o → z c = zI c) → z o 4 = 128 → (∀ c, c < q → z2 c = zL c) → Q none S' z z2) : wpM X (d + 1) fPoints_init [pR o, pI 128] S zI zL Q := by
  refine wp_in (C := c_Points_init) (ls := [some (pR o), some (pI 128)]) rfl rfl rfl rfl rfl ?_
  have bn0 : q < 10000 := by omega
  have bn1 : q + 1 < 10000 := by omega
  have bn2 : q + 2 < 10000 := by omega
  have bn3 : q + 3 < 10000 := by omega
  have fz0 : ∀ c, c < q → zI c = zI c := fun c _ => rfl
  have fy0 : ∀ c, c < q → zL c = zL c := fun c _ => rfl
  refine r_aload_n rfl rfl ?_
  refine r_obj rfl (Nat.le_of_ble_eq_true rfl) ?_
  refine r_aload_n rfl rfl ?_
  refine r_iload_n rfl rfl ?_
  refine r_putIf rfl ho ?_
  obtain ⟨z1, hz1⟩ : ∃ w, w = zput (zI) (o) 4 (128) := ⟨_, rfl⟩
  rw [← hz1]
  have hp1 : ∀ c, c ≠ o → z1 c = zI c := fun c hc => by rw [hz1]; exact zput_row hc
  refine r_aload_n rfl rfl ?_
  refine r_iload_n rfl rfl ?_
  refine k_newa rfl rfl (by decide) (by decide +kernel) (by decide +kernel) hl bn0 (fun S2 z2 y2 ha2 hb2 hc2 hd2 he2 hf2 => ?_)
  have hl2 : S2.1.length = q + 1 := by rw [ha2, List.length_append, hl]; rfl
  have obo_2 := ob_ap ho ha2
  have fy2 : ∀ c, c < q → y2 c = zL c := fun c h => (he2 c (Nat.ne_of_lt h)).trans (fy0 c h)
  refine k_putR rfl obo_2 (fun S3 ha3 hb3 => ?_)
  have hl3 : S3.1.length = q + 1 := by rw [ha3]; exact hl2
  have obo_3 := ob_eq obo_2 ha3
  refine r_aload_n rfl rfl ?_
  refine r_iload_n rfl rfl ?_
  refine k_newa rfl rfl (by decide) (by decide +kernel) (by decide +kernel) hl3 bn1 (fun S4 z4 y4 ha4 hb4 hc4 hd4 he4 hf4 => ?_)
  have hl4 : S4.1.length = q + 2 := by rw [ha4, List.length_append, hl3]; rfl
  have obo_4 := ob_ap obo_3 ha4
  have fy4 : ∀ c, c < q → y4 c = zL c := fun c h => (he4 c (Nat.ne_of_lt (Nat.lt_of_lt_of_le h (Nat.le_add_right _ _)))).trans (fy2 c h)
  refine k_putR rfl obo_4 (fun S5 ha5 hb5 => ?_)
  have hl5 : S5.1.length = q + 2 := by rw [ha5]; exact hl4
  have obo_5 := ob_eq obo_4 ha5
  refine r_aload_n rfl rfl ?_
  refine r_iload_n rfl rfl ?_
  refine k_newa rfl rfl (by decide) (by decide +kernel) (by decide +kernel) hl5 bn2 (fun S6 z6 y6 ha6 hb6 hc6 hd6 he6 hf6 => ?_)
  have hl6 : S6.1.length = q + 3 := by rw [ha6, List.length_append, hl5]; rfl
  have obo_6 := ob_ap obo_5 ha6
  have fy6 : ∀ c, c < q → y6 c = zL c := fun c h => (he6 c (Nat.ne_of_lt (Nat.lt_of_lt_of_le h (Nat.le_add_right _ _)))).trans (fy4 c h)
  refine k_putR rfl obo_6 (fun S7 ha7 hb7 => ?_)
  have hl7 : S7.1.length = q + 3 := by rw [ha7]; exact hl6
  have obo_7 := ob_eq obo_6 ha7
  refine r_aload_n rfl rfl ?_
  refine r_iload_n rfl rfl ?_
  refine k_newa rfl rfl (by decide) (by decide +kernel) (by decide +kernel) hl7 bn3 (fun S8 z8 y8 ha8 hb8 hc8 hd8 he8 hf8 => ?_)
  have hl8 : S8.1.length = q + 4 := by rw [ha8, List.length_append, hl7]; rfl
  have obo_8 := ob_ap obo_7 ha8
  have fy8 : ∀ c, c < q → y8 c = zL c := fun c h => (he8 c (Nat.ne_of_lt (Nat.lt_of_lt_of_le h (Nat.le_add_right _ _)))).trans (fy6 c h)
  refine k_putR rfl obo_8 (fun S9 ha9 hb9 => ?_)
  have hl9 : S9.1.length = q + 4 := by rw [ha9]; exact hl8
  have obo_9 := ob_eq obo_8 ha9
  refine r_ret rfl ?_
  refine hQ S9 z8 y8 ?_ ?_ (fun c c0 c1 => by rw [hc8 c (by omega), hc6 c (by omega), hc4 c (by omega), hc2 c (by omega), hp1 c c1]) (by rw [hc8 o (by omega), hc6 o (by omega), hc4 o (by omega), hc2 o (by omega), hz1, zput_at]) (fun c c0 => by rw [he8 c (by omega), he6 c (by omega), he4 c (by omega), he2 c (by omega)])
  · simp only [ha9, ha8, ha7, ha6, ha5, ha4, ha3, ha2, List.append_assoc, List.cons_append, List.nil_append]
  · rw [hb9, hb8, hb7, hb6, hb5, hb4, hb3, hb2]
