/-! THE REFERENCE: its cells (184 its object, 185 and up its rows), its reads of terms and points -/
theorem so0 {S : SS} (h : Sk S) : ob S 0 9 := sk_ob h rfl
theorem sw1 {S : SS} (h : Sk S) : row S 15 1 10 := sk_row h rfl
theorem sw2 {S : SS} (h : Sk S) : row S 16 2 10 := sk_row h rfl
theorem sw3 {S : SS} (h : Sk S) : row S 17 3 4 := sk_row h rfl
theorem sw4 {S : SS} (h : Sk S) : row S 13 4 756 := sk_row h rfl
theorem so5 {S : SS} (h : Sk S) : ob S 5 6 := sk_ob h rfl
theorem sw6 {S : SS} (h : Sk S) : row S 12 6 81 := sk_row h rfl
theorem sw7 {S : SS} (h : Sk S) : row S 12 7 81 := sk_row h rfl
theorem sw8 {S : SS} (h : Sk S) : row S 12 8 81 := sk_row h rfl
theorem so9 {S : SS} (h : Sk S) : ob S 9 2 := sk_ob h rfl
theorem sw10 {S : SS} (h : Sk S) : row S 12 10 81 := sk_row h rfl
theorem so11 {S : SS} (h : Sk S) : ob S 11 2 := sk_ob h rfl
theorem sw12 {S : SS} (h : Sk S) : row S 12 12 81 := sk_row h rfl
theorem so13 {S : SS} (h : Sk S) : ob S 13 0 := sk_ob h rfl
theorem so14 {S : SS} (h : Sk S) : ob S 14 5 := sk_ob h rfl
theorem sw15 {S : SS} (h : Sk S) : row S 13 15 128 := sk_row h rfl
theorem sw16 {S : SS} (h : Sk S) : row S 13 16 128 := sk_row h rfl
theorem sw17 {S : SS} (h : Sk S) : row S 13 17 128 := sk_row h rfl
theorem sw18 {S : SS} (h : Sk S) : row S 13 18 128 := sk_row h rfl
theorem sw19 {S : SS} (h : Sk S) : row S 12 19 128 := sk_row h rfl
theorem so20 {S : SS} (h : Sk S) : ob S 20 4 := sk_ob h rfl
theorem so21 {S : SS} (h : Sk S) : ob S 21 4 := sk_ob h rfl
theorem so22 {S : SS} (h : Sk S) : ob S 22 4 := sk_ob h rfl
theorem so23 {S : SS} (h : Sk S) : ob S 23 4 := sk_ob h rfl
theorem so24 {S : SS} (h : Sk S) : ob S 24 8 := sk_ob h rfl
theorem sw25 {S : SS} (h : Sk S) : row S 12 25 40 := sk_row h rfl
theorem so184 {S : SS} (h : Sk S) : ob S 184 10 := sk_ob h rfl
theorem sw185 {S : SS} (h : Sk S) : row S 12 185 11 := sk_row h rfl
theorem sw186 {S : SS} (h : Sk S) : row S 12 186 11 := sk_row h rfl
theorem sw187 {S : SS} (h : Sk S) : row S 12 187 440 := sk_row h rfl
theorem sw188 {S : SS} (h : Sk S) : row S 12 188 440 := sk_row h rfl
theorem sw189 {S : SS} (h : Sk S) : row S 12 189 440 := sk_row h rfl
theorem sw190 {S : SS} (h : Sk S) : row S 12 190 81 := sk_row h rfl
theorem sw191 {S : SS} (h : Sk S) : row S 12 191 81 := sk_row h rfl
theorem sw192 {S : SS} (h : Sk S) : row S 14 192 81 := sk_row h rfl
theorem sw193 {S : SS} (h : Sk S) : row S 14 193 81 := sk_row h rfl
theorem sw194 {S : SS} (h : Sk S) : row S 12 194 1700 := sk_row h rfl
theorem sw195 {S : SS} (h : Sk S) : row S 12 195 1700 := sk_row h rfl
theorem sw196 {S : SS} (h : Sk S) : row S 12 196 780 := sk_row h rfl
theorem sw197 {S : SS} (h : Sk S) : row S 12 197 780 := sk_row h rfl
theorem sw198 {S : SS} (h : Sk S) : row S 12 198 780 := sk_row h rfl
theorem sw199 {S : SS} (h : Sk S) : row S 12 199 780 := sk_row h rfl
theorem sw200 {S : SS} (h : Sk S) : row S 12 200 780 := sk_row h rfl
theorem sw201 {S : SS} (h : Sk S) : row S 14 201 780 := sk_row h rfl
theorem sw202 {S : SS} (h : Sk S) : row S 14 202 780 := sk_row h rfl
theorem sw203 {S : SS} (h : Sk S) : row S 13 203 6240 := sk_row h rfl
theorem sw204 {S : SS} (h : Sk S) : row S 13 204 6240 := sk_row h rfl
theorem sw205 {S : SS} (h : Sk S) : row S 12 205 1560 := sk_row h rfl
theorem sw206 {S : SS} (h : Sk S) : row S 12 206 780 := sk_row h rfl
theorem sw207 {S : SS} (h : Sk S) : row S 12 207 780 := sk_row h rfl
theorem sw208 {S : SS} (h : Sk S) : row S 12 208 780 := sk_row h rfl
theorem sw209 {S : SS} (h : Sk S) : row S 12 209 780 := sk_row h rfl
theorem sw210 {S : SS} (h : Sk S) : row S 12 210 780 := sk_row h rfl
theorem sw211 {S : SS} (h : Sk S) : row S 14 211 780 := sk_row h rfl
theorem sw212 {S : SS} (h : Sk S) : row S 13 212 3200 := sk_row h rfl
theorem sw213 {S : SS} (h : Sk S) : row S 12 213 800 := sk_row h rfl
theorem sw214 {S : SS} (h : Sk S) : row S 13 214 10000 := sk_row h rfl
theorem sw215 {S : SS} (h : Sk S) : row S 13 215 10000 := sk_row h rfl
theorem sw216 {S : SS} (h : Sk S) : row S 12 216 40 := sk_row h rfl
theorem sw217 {S : SS} (h : Sk S) : row S 12 217 4 := sk_row h rfl
theorem sw218 {S : SS} (h : Sk S) : row S 12 218 4 := sk_row h rfl
theorem sw219 {S : SS} (h : Sk S) : row S 12 219 160 := sk_row h rfl
theorem sw220 {S : SS} (h : Sk S) : row S 12 220 40 := sk_row h rfl
theorem sr0_0 {S : SS} (h : Sk S) : S.2 0 0 = some 1 := sk_ref h 0 rfl
theorem sr0_1 {S : SS} (h : Sk S) : S.2 0 1 = some 2 := sk_ref h 1 rfl
theorem sr0_2 {S : SS} (h : Sk S) : S.2 0 2 = some 3 := sk_ref h 2 rfl
theorem sr0_3 {S : SS} (h : Sk S) : S.2 0 3 = some 4 := sk_ref h 3 rfl
theorem sr0_4 {S : SS} (h : Sk S) : S.2 0 4 = some 5 := sk_ref h 4 rfl
theorem sr0_5 {S : SS} (h : Sk S) : S.2 0 5 = some 9 := sk_ref h 5 rfl
theorem sr0_6 {S : SS} (h : Sk S) : S.2 0 6 = some 11 := sk_ref h 6 rfl
theorem sr0_7 {S : SS} (h : Sk S) : S.2 0 7 = some 13 := sk_ref h 7 rfl
theorem sr0_8 {S : SS} (h : Sk S) : S.2 0 8 = some 23 := sk_ref h 8 rfl
theorem sr0_9 {S : SS} (h : Sk S) : S.2 0 9 = some 24 := sk_ref h 9 rfl
theorem sr5_0 {S : SS} (h : Sk S) : S.2 5 0 = some 6 := sk_ref h 34 rfl
theorem sr5_1 {S : SS} (h : Sk S) : S.2 5 1 = some 7 := sk_ref h 35 rfl
theorem sr5_2 {S : SS} (h : Sk S) : S.2 5 2 = some 8 := sk_ref h 36 rfl
theorem sr9_0 {S : SS} (h : Sk S) : S.2 9 0 = some 10 := sk_ref h 37 rfl
theorem sr11_0 {S : SS} (h : Sk S) : S.2 11 0 = some 12 := sk_ref h 38 rfl
theorem sr13_0 {S : SS} (h : Sk S) : S.2 13 0 = some 14 := sk_ref h 39 rfl
theorem sr13_1 {S : SS} (h : Sk S) : S.2 13 1 = some 19 := sk_ref h 40 rfl
theorem sr13_2 {S : SS} (h : Sk S) : S.2 13 2 = some 20 := sk_ref h 41 rfl
theorem sr13_3 {S : SS} (h : Sk S) : S.2 13 3 = some 21 := sk_ref h 42 rfl
theorem sr13_4 {S : SS} (h : Sk S) : S.2 13 4 = some 22 := sk_ref h 43 rfl
theorem sr14_0 {S : SS} (h : Sk S) : S.2 14 0 = some 15 := sk_ref h 44 rfl
theorem sr14_1 {S : SS} (h : Sk S) : S.2 14 1 = some 16 := sk_ref h 45 rfl
theorem sr14_2 {S : SS} (h : Sk S) : S.2 14 2 = some 17 := sk_ref h 46 rfl
theorem sr14_3 {S : SS} (h : Sk S) : S.2 14 3 = some 18 := sk_ref h 47 rfl
theorem sr24_0 {S : SS} (h : Sk S) : S.2 24 0 = some 25 := sk_ref h 48 rfl
theorem sr184_1 {S : SS} (h : Sk S) : S.2 184 1 = some 185 := sk_ref h 203 rfl
theorem sr184_2 {S : SS} (h : Sk S) : S.2 184 2 = some 186 := sk_ref h 204 rfl
theorem sr184_3 {S : SS} (h : Sk S) : S.2 184 3 = some 187 := sk_ref h 205 rfl
theorem sr184_4 {S : SS} (h : Sk S) : S.2 184 4 = some 188 := sk_ref h 206 rfl
theorem sr184_5 {S : SS} (h : Sk S) : S.2 184 5 = some 189 := sk_ref h 207 rfl
theorem sr184_6 {S : SS} (h : Sk S) : S.2 184 6 = some 190 := sk_ref h 208 rfl
theorem sr184_7 {S : SS} (h : Sk S) : S.2 184 7 = some 191 := sk_ref h 209 rfl
theorem sr184_8 {S : SS} (h : Sk S) : S.2 184 8 = some 192 := sk_ref h 210 rfl
theorem sr184_9 {S : SS} (h : Sk S) : S.2 184 9 = some 193 := sk_ref h 211 rfl
theorem sr184_15 {S : SS} (h : Sk S) : S.2 184 15 = some 194 := sk_ref h 212 rfl
theorem sr184_16 {S : SS} (h : Sk S) : S.2 184 16 = some 195 := sk_ref h 213 rfl
theorem sr184_19 {S : SS} (h : Sk S) : S.2 184 19 = some 196 := sk_ref h 214 rfl
theorem sr184_20 {S : SS} (h : Sk S) : S.2 184 20 = some 197 := sk_ref h 215 rfl
theorem sr184_21 {S : SS} (h : Sk S) : S.2 184 21 = some 198 := sk_ref h 216 rfl
theorem sr184_22 {S : SS} (h : Sk S) : S.2 184 22 = some 199 := sk_ref h 217 rfl
theorem sr184_23 {S : SS} (h : Sk S) : S.2 184 23 = some 200 := sk_ref h 218 rfl
theorem sr184_24 {S : SS} (h : Sk S) : S.2 184 24 = some 201 := sk_ref h 219 rfl
theorem sr184_25 {S : SS} (h : Sk S) : S.2 184 25 = some 202 := sk_ref h 220 rfl
theorem sr184_26 {S : SS} (h : Sk S) : S.2 184 26 = some 203 := sk_ref h 221 rfl
theorem sr184_34 {S : SS} (h : Sk S) : S.2 184 34 = some 204 := sk_ref h 222 rfl
theorem sr184_35 {S : SS} (h : Sk S) : S.2 184 35 = some 205 := sk_ref h 223 rfl
theorem sr184_37 {S : SS} (h : Sk S) : S.2 184 37 = some 206 := sk_ref h 224 rfl
theorem sr184_38 {S : SS} (h : Sk S) : S.2 184 38 = some 207 := sk_ref h 225 rfl
theorem sr184_39 {S : SS} (h : Sk S) : S.2 184 39 = some 208 := sk_ref h 226 rfl
theorem sr184_40 {S : SS} (h : Sk S) : S.2 184 40 = some 209 := sk_ref h 227 rfl
theorem sr184_41 {S : SS} (h : Sk S) : S.2 184 41 = some 210 := sk_ref h 228 rfl
theorem sr184_42 {S : SS} (h : Sk S) : S.2 184 42 = some 211 := sk_ref h 229 rfl
theorem sr184_44 {S : SS} (h : Sk S) : S.2 184 44 = some 212 := sk_ref h 230 rfl
theorem sr184_45 {S : SS} (h : Sk S) : S.2 184 45 = some 213 := sk_ref h 231 rfl
theorem sr184_46 {S : SS} (h : Sk S) : S.2 184 46 = some 214 := sk_ref h 232 rfl
theorem sr184_47 {S : SS} (h : Sk S) : S.2 184 47 = some 215 := sk_ref h 233 rfl
theorem sr184_49 {S : SS} (h : Sk S) : S.2 184 49 = some 216 := sk_ref h 234 rfl
theorem sr184_51 {S : SS} (h : Sk S) : S.2 184 51 = some 217 := sk_ref h 235 rfl
theorem sr184_52 {S : SS} (h : Sk S) : S.2 184 52 = some 218 := sk_ref h 236 rfl
theorem sr184_53 {S : SS} (h : Sk S) : S.2 184 53 = some 219 := sk_ref h 237 rfl
theorem sr184_54 {S : SS} (h : Sk S) : S.2 184 54 = some 220 := sk_ref h 238 rfl
section Bools
variable {X : PX} {d : Nat} {C : List PI} {pc : Nat} {ls : List (Option PV)} {st : List PV} {S : SS} {zI zL : ZM} {mc ms : Nat} {Q : PQ} {nx a b : Nat} {c : Int}
theorem r_if_eq1 {n : Int} (h : C[pc]? = some (.ifCond .eq n, nx, a, b, c)) (k : Run X d C nx ls st S zI zL mc ms Q) : Run X d C pc ls (pI 1 :: st) S zI zL mc ms Q := r_if_eq h (by unfold inI; omega) (fun q => absurd q (by decide)) (fun _ => k)
theorem r_if_eq0 {n : Int} (h : C[pc]? = some (.ifCond .eq n, nx, a, b, c)) (k : Run X d C a ls st S zI zL mc ms Q) : Run X d C pc ls (pI 0 :: st) S zI zL mc ms Q := r_if_eq h (by unfold inI; omega) (fun _ => k) (fun q => absurd rfl q)
theorem r_if_ne1 {n : Int} (h : C[pc]? = some (.ifCond .ne n, nx, a, b, c)) (k : Run X d C a ls st S zI zL mc ms Q) : Run X d C pc ls (pI 1 :: st) S zI zL mc ms Q := r_if_ne h (by unfold inI; omega) (fun _ => k) (fun q => absurd q (by decide))
theorem r_if_ne0 {n : Int} (h : C[pc]? = some (.ifCond .ne n, nx, a, b, c)) (k : Run X d C nx ls st S zI zL mc ms Q) : Run X d C pc ls (pI 0 :: st) S zI zL mc ms Q := r_if_ne h (by unfold inI; omega) (fun q => absurd rfl q) (fun _ => k)
end Bools
/-- the terms of a form, as the reference has them -/
def FM (z : ZM) (f n : Int) (I J V : Int → Int) : Prop := z 186 f = n ∧ ∀ t, 0 ≤ t → t < n → z 187 (40 * f + t) = I t ∧ z 188 (40 * f + t) = J t ∧ z 189 (40 * f + t) = V t
/-- the point that the reference stands at -/
def PM (z : ZM) (x xd y yd : Int) : Prop := (z 184 11 = x ∧ z 184 12 = xd) ∧ (z 184 13 = y ∧ z 184 14 = yd)
def xF (z : ZM) : Prop := 0 ≤ z 184 0 ∧ z 184 0 ≤ 10
theorem x_in {X : PX} {d : Nat} {S : SS} {zI zL : ZM} {Q : PQ} (hS : Sk S) {a b c : Int} (ha : inI a) (hb : inI b) (hc : inI c) (h1 : b ≤ a → a ≤ c → Q (some (pI 1)) S zI zL) (h0 : ¬ (b ≤ a ∧ a ≤ c) → Q (some (pI 0)) S zI zL) : wpM X (d + 1) fM_in [pR 184, pI a, pI b, pI c] S zI zL Q := by
  refine wp_in (C := c_M_in) (ls := [some (pR 184), some (pI a), some (pI b), some (pI c)]) rfl rfl rfl rfl rfl ?_
  refine r_iload_n rfl rfl ?_
  refine r_iload_n rfl rfl ?_
  refine r_icmp_lt rfl ha hb (fun h2 => ?_) (fun h2 => ?_)
  · skip
    refine r_iconst rfl ?_
    refine r_zret rfl (by first | exact Or.inl rfl | exact Or.inr rfl | assumption) ?_
    exact h0 (by omega)
  · skip
    refine r_iload_n rfl rfl ?_
    refine r_iload_n rfl rfl ?_
    refine r_icmp_gt rfl ha hc (fun h5 => ?_) (fun h5 => ?_)
    · skip
      refine r_iconst rfl ?_
      refine r_zret rfl (by first | exact Or.inl rfl | exact Or.inr rfl | assumption) ?_
      exact h0 (by omega)
    · skip
      refine r_iconst rfl ?_
      refine r_goto rfl ?_
      refine r_zret rfl (by first | exact Or.inl rfl | exact Or.inr rfl | assumption) ?_
      exact h1 (by omega) (by omega)
theorem x_is {X : PX} {d : Nat} {S : SS} {zI zL : ZM} {Q : PQ} (hS : Sk S) {f : Int} (hf : inI f) (hF : xF zI) (h1 : 0 ≤ f → f < zI 184 0 → Q (some (pI 1)) S zI zL) (h0 : ¬ (0 ≤ f ∧ f < zI 184 0) → Q (some (pI 0)) S zI zL) : wpM X (d + 2) fM_is [pR 184, pI f] S zI zL Q := by
  unfold xF at hF
  refine wp_in (C := c_M_is) (ls := [some (pR 184), some (pI f)]) rfl rfl rfl rfl rfl ?_
  refine r_aload_n rfl rfl ?_
  refine r_iload_n rfl rfl ?_
  refine r_iconst rfl ?_
  refine r_aload_n rfl rfl ?_
  refine r_getI rfl (so184 hS) ?_
  refine r_iconst rfl ?_
  refine r_isub rfl ?_
  refine r_cV4 rfl (so184 hS) (Nat.le_of_ble_eq_true rfl) rfl rfl (x_in hS hf (by unfold inI; omega) (by unfold inI; omega) (fun p q => ?_) (fun p => ?_))
  · skip
    refine r_zret rfl (by first | exact Or.inl rfl | exact Or.inr rfl | assumption) ?_
    exact h1 (by omega) (by omega)
  · skip
    refine r_zret rfl (by first | exact Or.inl rfl | exact Or.inr rfl | assumption) ?_
    exact h0 (by omega)
theorem x_hasTerms {X : PX} {d : Nat} {S : SS} {zI zL : ZM} {Q : PQ} (hS : Sk S) {f : Int} (hf : inI f) (hF : xF zI) (ht : 0 ≤ f → f < zI 184 0 → inI (zI 186 f)) (h1 : 0 ≤ f → f < zI 184 0 → 0 < zI 186 f → Q (some (pI 1)) S zI zL) (h0 : ¬ (0 ≤ f ∧ f < zI 184 0 ∧ 0 < zI 186 f) → Q (some (pI 0)) S zI zL) : wpM X (d + 3) fM_hasTerms [pR 184, pI f] S zI zL Q := by
  have hF0 := hF
  unfold xF at hF
  refine wp_in (C := c_M_hasTerms) (ls := [some (pR 184), some (pI f)]) rfl rfl rfl rfl rfl ?_
  refine r_aload_n rfl rfl ?_
  refine r_iload_n rfl rfl ?_
  refine r_cV2 rfl (so184 hS) (Nat.le_of_ble_eq_true rfl) rfl rfl (x_is hS hf hF0 (fun p q => ?_) (fun p => ?_))
  · skip
    refine r_if_eq1 rfl ?_
    refine r_aload_n rfl rfl ?_
    refine r_getR rfl (so184 hS) (sr184_2 hS) ?_
    refine r_iload_n rfl rfl ?_
    refine r_iald rfl (sw186 hS) (by omega) (by omega) ?_
    refine r_if_le rfl (ht p q) (fun h8 => ?_) (fun h8 => ?_)
    · skip
      refine r_iconst rfl ?_
      refine r_zret rfl (by first | exact Or.inl rfl | exact Or.inr rfl | assumption) ?_
      exact h0 (by omega)
    · skip
      refine r_iconst rfl ?_
      refine r_goto rfl ?_
      refine r_zret rfl (by first | exact Or.inl rfl | exact Or.inr rfl | assumption) ?_
      exact h1 p q (by omega)
  · skip
    refine r_if_eq0 rfl ?_
    refine r_iconst rfl ?_
    refine r_zret rfl (by first | exact Or.inl rfl | exact Or.inr rfl | assumption) ?_
    exact h0 (by omega)
theorem x_termAt {X : PX} {d : Nat} {S : SS} {zI zL : ZM} {Q : PQ} (hS : Sk S) {f n : Int} {I J V : Int → Int} (hf : 0 ≤ f ∧ f ≤ 10) (hT : FM zI f n I J V) (hR : FR n I J V) {a b : Int} (ha : inI a) (hb : inI b) (hQ : Q (some (pI (fnd n I J a b))) S zI zL) : wpM X (d + 1) fM_termAt [pR 184, pI f, pI a, pI b] S zI zL Q := by
  have hT0 := hT
  have hR0 := hR
  obtain ⟨e4, hel⟩ := hT
  obtain ⟨hn0, hn40, hrg⟩ := hR
  have key : ∀ k : Int, k ≤ n → 0 ≤ k → srch (fun t => decide (I t = a ∧ J t = b)) (n - k).toNat k = fnd n I J a b → Run X d c_M_termAt 2 [some (pR 184), some (pI f), some (pI a), some (pI b), some (pI k)] [] S zI zL 0 0 Q := by
    refine loop_up _ n (fun k hk ih h0 hs => ?_)
    refine r_iload rfl rfl ?_
    refine r_aload_n rfl rfl ?_
    refine r_getR rfl (so184 hS) (sr184_2 hS) ?_
    refine r_iload_n rfl rfl ?_
    refine r_iald rfl (sw186 hS) (by omega) (by omega) ?_
    rw [e4]
    refine r_icmp_ge rfl (by unfold inI; omega) (by unfold inI; omega) (fun h7 => ?_) (fun h7 => ?_)
    · skip
      refine r_iconst rfl ?_
      refine r_iret rfl ?_
      rw [srch_end (by omega)] at hs; rw [hs]; exact hQ
    · skip
      have ht := hel k h0 (by omega)
      have hg := hrg k h0 (by omega)
      refine r_aload_n rfl rfl ?_
      refine r_getR rfl (so184 hS) (sr184_3 hS) ?_
      refine r_bipush rfl ?_
      refine r_iload_n rfl rfl ?_
      refine r_imul rfl ?_
      refine r_iload rfl rfl ?_
      refine r_iadd rfl ?_
      refine r_iald rfl (sw187 hS) (by omega) (by omega) ?_
      refine r_iload_n rfl rfl ?_
      refine r_icmp_ne rfl (by unfold inI; omega) ha (fun h17 => ?_) (fun h17 => ?_)
      · skip
        refine r_iinc rfl rfl ?_
        refine r_goto rfl ?_
        exact ih (by omega) (by omega) (by rw [← srch_miss (by omega) (by simp only [decide_eq_false_iff_not]; omega)]; exact hs)
      · skip
        refine r_aload_n rfl rfl ?_
        refine r_getR rfl (so184 hS) (sr184_4 hS) ?_
        refine r_bipush rfl ?_
        refine r_iload_n rfl rfl ?_
        refine r_imul rfl ?_
        refine r_iload rfl rfl ?_
        refine r_iadd rfl ?_
        refine r_iald rfl (sw188 hS) (by omega) (by omega) ?_
        refine r_iload_n rfl rfl ?_
        refine r_icmp_ne rfl (by unfold inI; omega) hb (fun h27 => ?_) (fun h27 => ?_)
        · skip
          refine r_iinc rfl rfl ?_
          refine r_goto rfl ?_
          exact ih (by omega) (by omega) (by rw [← srch_miss (by omega) (by simp only [decide_eq_false_iff_not]; omega)]; exact hs)
        · skip
          refine r_iload rfl rfl ?_
          refine r_iret rfl ?_
          rw [srch_hit (by omega) (by simp only [decide_eq_true_eq]; omega)] at hs; rw [hs]; exact hQ
  refine wp_in (C := c_M_termAt) (ls := [some (pR 184), some (pI f), some (pI a), some (pI b), none]) rfl rfl rfl rfl rfl ?_
  refine r_iconst rfl ?_
  refine r_istore rfl (Nat.le_of_ble_eq_true rfl) ?_
  exact key 0 hn0 (Int.le_refl _) (by rw [Int.sub_zero]; rfl)
theorem x_worthOf {X : PX} {d : Nat} {S : SS} {zI zL : ZM} {Q : PQ} (hS : Sk S) {f n : Int} {I J V : Int → Int} (hf : 0 ≤ f ∧ f ≤ 10) (hT : FM zI f n I J V) (hR : FR n I J V) {x xd y yd : Int} (hP : PM zL x xd y yd) {t u : Int} (h0 : 0 ≤ t) (h1 : t < n) (hu : u = 40 * f + t) (hQ : Q (some (pL (wv (I t) (J t) (V t) x xd y yd))) S zI zL) : wpM X (d + 1) fM_worthOf [pR 184, pI u] S zI zL Q := by
  have hT0 := hT
  have hR0 := hR
  obtain ⟨e4, hel⟩ := hT
  obtain ⟨hn0, hn40, hrg⟩ := hR
  obtain ⟨g1, g2, g3⟩ := hel t h0 h1
  rw [← hu] at g1 g2 g3
  have hg := hrg t h0 h1
  obtain ⟨⟨e0, e1⟩, e2, e3⟩ := hP
  refine wp_in (C := c_M_worthOf) (ls := [some (pR 184), some (pI u)]) rfl rfl rfl rfl rfl ?_
  refine r_aload_n rfl rfl ?_
  refine r_getR rfl (so184 hS) (sr184_5 hS) ?_
  refine r_iload_n rfl rfl ?_
  refine r_iald rfl (sw189 hS) (by omega) (by omega) ?_
  refine r_i2l rfl (by unfold inI; omega) ?_
  refine r_aload_n rfl rfl ?_
  refine r_getL rfl (so184 hS) ?_
  refine r_lmul rfl ?_
  refine r_aload_n rfl rfl ?_
  refine r_getL rfl (so184 hS) ?_
  refine r_lmul rfl ?_
  refine r_aload_n rfl rfl ?_
  refine r_getR rfl (so184 hS) (sr184_3 hS) ?_
  refine r_iload_n rfl rfl ?_
  refine r_iald rfl (sw187 hS) (by omega) (by omega) ?_
  refine r_i2l rfl (by unfold inI; omega) ?_
  refine r_aload_n rfl rfl ?_
  refine r_getL rfl (so184 hS) ?_
  refine r_lmul rfl ?_
  refine r_aload_n rfl rfl ?_
  refine r_getL rfl (so184 hS) ?_
  refine r_lmul rfl ?_
  refine r_ladd rfl ?_
  refine r_aload_n rfl rfl ?_
  refine r_getR rfl (so184 hS) (sr184_4 hS) ?_
  refine r_iload_n rfl rfl ?_
  refine r_iald rfl (sw188 hS) (by omega) (by omega) ?_
  refine r_i2l rfl (by unfold inI; omega) ?_
  refine r_aload_n rfl rfl ?_
  refine r_getL rfl (so184 hS) ?_
  refine r_lmul rfl ?_
  refine r_aload_n rfl rfl ?_
  refine r_getL rfl (so184 hS) ?_
  refine r_lmul rfl ?_
  refine r_ladd rfl ?_
  refine r_lret rfl ?_
  rw [g1, g2, g3, e0, e1, e2, e3, show V t * xd * yd + I t * x * yd + J t * y * xd = wv (I t) (J t) (V t) x xd y yd from by unfold wv; rw [Int.mul_assoc (V t)]; omega]; exact hQ
theorem x_leastOf {X : PX} {d : Nat} {S : SS} {zI zL : ZM} {Q : PQ} (hS : Sk S) {f n : Int} {I J V : Int → Int} (hf : 0 ≤ f ∧ f ≤ 10) (hT : FM zI f n I J V) (hR : FR n I J V) {x xd y yd : Int} (hP : PM zL x xd y yd) (hB : PB x xd y yd) (hpos : 0 < n) (hQ : Q (some (pL (leastS n I J V x xd y yd))) S zI zL) : wpM X (d + 2) fM_leastOf [pR 184, pI f] S zI zL Q := by
  have hT0 := hT
  have hR0 := hR
  obtain ⟨e4, hel⟩ := hT
  obtain ⟨hn0, hn40, hrg⟩ := hR
  have hw : ∀ t, 0 ≤ t → t < n → -17000000 ≤ wv (I t) (J t) (V t) x xd y yd ∧ wv (I t) (J t) (V t) x xd y yd ≤ 17000000 := fun t h0 h1 => by
    have hg := hrg t h0 h1
    exact wv_b ⟨hg.1, hg.2.1⟩ ⟨hg.2.2.1, hg.2.2.2.1⟩ hg.2.2.2.2 hB
  have key : ∀ k : Int, k ≤ n → 1 ≤ k → ∀ m : Int, -17000000 ≤ m → m ≤ 17000000 → mns (fun t => wv (I t) (J t) (V t) x xd y yd) (n - k).toNat k m = leastS n I J V x xd y yd → Run X (d + 1) c_M_leastOf 8 [some (pR 184), some (pI f), some (pL m), none, some (pI k)] [] S zI zL 0 0 Q := by
    refine loop_up _ n (fun k hk ih h0 m hm1 hm2 hs => ?_)
    refine r_iload rfl rfl ?_
    refine r_aload_n rfl rfl ?_
    refine r_getR rfl (so184 hS) (sr184_2 hS) ?_
    refine r_iload_n rfl rfl ?_
    refine r_iald rfl (sw186 hS) (by omega) (by omega) ?_
    rw [e4]
    refine r_icmp_ge rfl (by unfold inI; omega) (by unfold inI; omega) (fun h13 => ?_) (fun h13 => ?_)
    · skip
      refine r_lload_n rfl rfl ?_
      refine r_lret rfl ?_
      rw [mns_e (by omega)] at hs; rw [hs]; exact hQ
    · skip
      have hwk := hw k (by omega) (by omega)
      refine r_aload_n rfl rfl ?_
      refine r_bipush rfl ?_
      refine r_iload_n rfl rfl ?_
      refine r_imul rfl ?_
      refine r_iload rfl rfl ?_
      refine r_iadd rfl ?_
      refine r_cV2 rfl (so184 hS) (Nat.le_of_ble_eq_true rfl) rfl rfl (x_worthOf hS hf hT0 hR0 hP (t := k) (by omega) (by omega) rfl ?_)
      refine r_lload_n rfl rfl ?_
      refine r_l_ge rfl rfl (by unfold inL; omega) (by unfold inL; omega) (fun h23 => ?_) (fun h23 => ?_)
      · skip
        refine r_iinc rfl rfl ?_
        refine r_goto rfl ?_
        exact ih (by omega) (by omega) _ (by omega) (by omega) (by rw [mns_s (by omega), Int.min_eq_left (by omega)] at hs; exact hs)
      · skip
        refine r_aload_n rfl rfl ?_
        refine r_bipush rfl ?_
        refine r_iload_n rfl rfl ?_
        refine r_imul rfl ?_
        refine r_iload rfl rfl ?_
        refine r_iadd rfl ?_
        refine r_cV2 rfl (so184 hS) (Nat.le_of_ble_eq_true rfl) rfl rfl (x_worthOf hS hf hT0 hR0 hP (t := k) (by omega) (by omega) rfl ?_)
        refine r_lstore_n rfl (Nat.le_of_ble_eq_true rfl) ?_
        refine r_iinc rfl rfl ?_
        refine r_goto rfl ?_
        exact ih (by omega) (by omega) _ (by omega) (by omega) (by rw [mns_s (by omega), Int.min_eq_right (by omega)] at hs; exact hs)
  refine wp_in (C := c_M_leastOf) (ls := [some (pR 184), some (pI f), none, none, none]) rfl rfl rfl rfl rfl ?_
  refine r_aload_n rfl rfl ?_
  refine r_bipush rfl ?_
  refine r_iload_n rfl rfl ?_
  refine r_imul rfl ?_
  refine r_cV2 rfl (so184 hS) (Nat.le_of_ble_eq_true rfl) rfl rfl (x_worthOf hS hf hT0 hR0 hP (t := 0) (by omega) (by omega) (by omega) ?_)
  refine r_lstore_n rfl (Nat.le_of_ble_eq_true rfl) ?_
  refine r_iconst rfl ?_
  refine r_istore rfl (Nat.le_of_ble_eq_true rfl) ?_
  exact key 1 (by omega) (Int.le_refl _) _ (hw 0 (by omega) (by omega)).1 (hw 0 (by omega) (by omega)).2 (by unfold leastS lst; rw [if_pos (by omega)])
theorem x_countLeast {X : PX} {d : Nat} {S : SS} {zI zL : ZM} {Q : PQ} (hS : Sk S) {f n : Int} {I J V : Int → Int} (hf : 0 ≤ f ∧ f ≤ 10) (hT : FM zI f n I J V) (hR : FR n I J V) {x xd y yd : Int} (hP : PM zL x xd y yd) (hB : PB x xd y yd) (hpos : 0 < n) (hQ : Q (some (pI (countS n I J V x xd y yd))) S zI zL) : wpM X (d + 3) fM_countLeast [pR 184, pI f] S zI zL Q := by
  have hT0 := hT
  have hR0 := hR
  obtain ⟨e4, hel⟩ := hT
  obtain ⟨hn0, hn40, hrg⟩ := hR
  have hlb := leastS_b hR0 hB
  have key : ∀ k : Int, k ≤ n → 0 ≤ k → ∀ c : Int, 0 ≤ c → c ≤ k → c + cnt (fun t => decide (wv (I t) (J t) (V t) x xd y yd = leastS n I J V x xd y yd)) (n - k).toNat k = countS n I J V x xd y yd → Run X (d + 2) c_M_countLeast 8 [some (pR 184), some (pI f), some (pL (leastS n I J V x xd y yd)), none, some (pI c), some (pI k)] [] S zI zL 0 0 Q := by
    refine loop_up _ n (fun k hk ih h0 c hc0 hck hs => ?_)
    refine r_iload rfl rfl ?_
    refine r_aload_n rfl rfl ?_
    refine r_getR rfl (so184 hS) (sr184_2 hS) ?_
    refine r_iload_n rfl rfl ?_
    refine r_iald rfl (sw186 hS) (by omega) (by omega) ?_
    rw [e4]
    refine r_icmp_ge rfl (by unfold inI; omega) (by unfold inI; omega) (fun h13 => ?_) (fun h13 => ?_)
    · skip
      refine r_iload rfl rfl ?_
      refine r_iret rfl ?_
      rw [cnt_e (by omega)] at hs; rw [show c = countS n I J V x xd y yd by omega]; exact hQ
    · skip
      have hg := hrg k h0 (by omega)
      have hwk := wv_b ⟨hg.1, hg.2.1⟩ ⟨hg.2.2.1, hg.2.2.2.1⟩ hg.2.2.2.2 hB
      refine r_iload rfl rfl ?_
      refine r_aload_n rfl rfl ?_
      refine r_bipush rfl ?_
      refine r_iload_n rfl rfl ?_
      refine r_imul rfl ?_
      refine r_iload rfl rfl ?_
      refine r_iadd rfl ?_
      refine r_cV2 rfl (so184 hS) (Nat.le_of_ble_eq_true rfl) rfl rfl (x_worthOf hS hf hT0 hR0 hP (t := k) (by omega) (by omega) rfl ?_)
      refine r_lload_n rfl rfl ?_
      refine r_l_ne rfl rfl (by unfold inL; omega) (by unfold inL; omega) (fun h24 => ?_) (fun h24 => ?_)
      · skip
        refine r_iconst rfl ?_
        refine r_iadd rfl ?_
        refine r_istore rfl (Nat.le_of_ble_eq_true rfl) ?_
        refine r_iinc rfl rfl ?_
        refine r_goto rfl ?_
        exact ih (by omega) (by omega) _ (by omega) (by omega) (by rw [cnt_s (by omega), if_neg (by simp only [decide_eq_true_eq]; exact h24)] at hs; omega)
      · skip
        refine r_iconst rfl ?_
        refine r_goto rfl ?_
        refine r_iadd rfl ?_
        refine r_istore rfl (Nat.le_of_ble_eq_true rfl) ?_
        refine r_iinc rfl rfl ?_
        refine r_goto rfl ?_
        exact ih (by omega) (by omega) _ (by omega) (by omega) (by rw [cnt_s (by omega), if_pos (by simp only [decide_eq_true_eq]; exact h24)] at hs; omega)
  refine wp_in (C := c_M_countLeast) (ls := [some (pR 184), some (pI f), none, none, none, none]) rfl rfl rfl rfl rfl ?_
  refine r_aload_n rfl rfl ?_
  refine r_iload_n rfl rfl ?_
  refine r_cV2 rfl (so184 hS) (Nat.le_of_ble_eq_true rfl) rfl rfl (x_leastOf hS hf hT0 hR0 hP hB hpos ?_)
  refine r_lstore_n rfl (Nat.le_of_ble_eq_true rfl) ?_
  refine r_iconst rfl ?_
  refine r_istore rfl (Nat.le_of_ble_eq_true rfl) ?_
  refine r_iconst rfl ?_
  refine r_istore rfl (Nat.le_of_ble_eq_true rfl) ?_
  exact key 0 hn0 (Int.le_refl _) 0 (Int.le_refl _) (Int.le_refl _) (by rw [Int.sub_zero, Int.zero_add]; rfl)
theorem x_isPoint {X : PX} {d : Nat} {S : SS} {zI zL : ZM} {Q : PQ} (hS : Sk S) {a b q : Int} (ha : inI a) (hb : inI b) (hq : inI q) (h1 : (-1000 ≤ a ∧ a ≤ 1000) → (-1000 ≤ b ∧ b ≤ 1000) → (1 ≤ q ∧ q ≤ 100) → Q (some (pI 1)) S zI zL) (h0 : ¬ ((-1000 ≤ a ∧ a ≤ 1000) ∧ (-1000 ≤ b ∧ b ≤ 1000) ∧ (1 ≤ q ∧ q ≤ 100)) → Q (some (pI 0)) S zI zL) : wpM X (d + 2) fM_isPoint [pR 184, pI a, pI b, pI q] S zI zL Q := by
  refine wp_in (C := c_M_isPoint) (ls := [some (pR 184), some (pI a), some (pI b), some (pI q)]) rfl rfl rfl rfl rfl ?_
  refine r_aload_n rfl rfl ?_
  refine r_iload_n rfl rfl ?_
  refine r_sipush rfl ?_
  refine r_sipush rfl ?_
  refine r_cV4 rfl (so184 hS) (Nat.le_of_ble_eq_true rfl) rfl rfl (x_in hS ha (by unfold inI; omega) (by unfold inI; omega) (fun p1 p2 => ?_) (fun p0 => ?_))
  · skip
    refine r_if_eq1 rfl ?_
    refine r_aload_n rfl rfl ?_
    refine r_iload_n rfl rfl ?_
    refine r_sipush rfl ?_
    refine r_sipush rfl ?_
    refine r_cV4 rfl (so184 hS) (Nat.le_of_ble_eq_true rfl) rfl rfl (x_in hS hb (by unfold inI; omega) (by unfold inI; omega) (fun p3 p4 => ?_) (fun p0 => ?_))
    · skip
      refine r_if_eq1 rfl ?_
      refine r_aload_n rfl rfl ?_
      refine r_iload_n rfl rfl ?_
      refine r_iconst rfl ?_
      refine r_bipush rfl ?_
      refine r_cV4 rfl (so184 hS) (Nat.le_of_ble_eq_true rfl) rfl rfl (x_in hS hq (by unfold inI; omega) (by unfold inI; omega) (fun p5 p6 => ?_) (fun p0 => ?_))
      · skip
        refine r_if_eq1 rfl ?_
        refine r_iconst rfl ?_
        refine r_goto rfl ?_
        refine r_zret rfl (by first | exact Or.inl rfl | exact Or.inr rfl | assumption) ?_
        exact h1 ⟨p1, p2⟩ ⟨p3, p4⟩ ⟨p5, p6⟩
      · skip
        refine r_if_eq0 rfl ?_
        refine r_iconst rfl ?_
        refine r_zret rfl (by first | exact Or.inl rfl | exact Or.inr rfl | assumption) ?_
        exact h0 (by omega)
    · skip
      refine r_if_eq0 rfl ?_
      refine r_iconst rfl ?_
      refine r_zret rfl (by first | exact Or.inl rfl | exact Or.inr rfl | assumption) ?_
      exact h0 (by omega)
  · skip
    refine r_if_eq0 rfl ?_
    refine r_iconst rfl ?_
    refine r_zret rfl (by first | exact Or.inl rfl | exact Or.inr rfl | assumption) ?_
    exact h0 (by omega)
theorem x_divisor {X : PX} {d : Nat} {S : SS} {zI zL : ZM} {Q : PQ} (hS : Sk S) {a b : Int} (ha : -500000000000000 ≤ a ∧ a ≤ 500000000000000) (hb : -500000000000000 ≤ b ∧ b ≤ 500000000000000) (hQ : Q (some (pL (Nat.gcd a.natAbs b.natAbs : Nat))) S zI zL) : wpM X (d + 1) fM_divisor [pR 184, pL a, pL b] S zI zL Q := by
  have l0 : inL 0 := by unfold inL; omega
  have key : ∀ (n : Nat) (x y : Nat) (w u : Option PV), y ≤ n → x ≤ 500000000000000 → y ≤ 500000000000000 → Nat.gcd x y = Nat.gcd a.natAbs b.natAbs → (∀ v, w ≠ some (pI v)) → Run X d c_M_divisor 18 [some (pR 184), some (pL a), none, some (pL b), none, some (pL x), none, some (pL y), none, w, u] [] S zI zL 0 0 Q := by
    intro n
    induction n with
    | zero =>
      intro x y w u hy hx1 hy1 hg hw
      have lx : inL (x : Int) := by unfold inL; omega
      have ly : inL (y : Int) := by unfold inL; omega
      rw [show y = 0 by omega, Nat.gcd_zero_right] at hg
      refine r_lload rfl rfl ?_
      refine r_lconst rfl ?_
      refine r_l_eq rfl rfl ly l0 (fun h21 => ?_) (fun h21 => ?_)
      · skip
        refine r_lload rfl rfl ?_
        refine r_lret rfl ?_
        rw [hg]; exact hQ
      · skip
        exact absurd (show (y : Int) = 0 by omega) h21
    | succ n ih =>
      intro x y w u hy hx1 hy1 hg hw
      have lx : inL (x : Int) := by unfold inL; omega
      have ly : inL (y : Int) := by unfold inL; omega
      have emod : (x : Int).tmod (y : Int) = ((x % y : Nat) : Int) := by rw [Int.tmod_eq_emod_of_nonneg (by omega), Int.natCast_emod]
      refine r_lload rfl rfl ?_
      refine r_lconst rfl ?_
      refine r_l_eq rfl rfl ly l0 (fun h21 => ?_) (fun h21 => ?_)
      · skip
        refine r_lload rfl rfl ?_
        refine r_lret rfl ?_
        rw [show y = 0 by omega, Nat.gcd_zero_right] at hg; rw [hg]; exact hQ
      · skip
        refine r_lload rfl rfl ?_
        refine r_lload rfl rfl ?_
        refine r_lrem rfl lx ly h21 ?_
        rw [emod]
        refine r_lstore rfl (Nat.le_of_ble_eq_true rfl) ?_
        refine r_lload rfl rfl ?_
        refine r_lstore rfl (Nat.le_of_ble_eq_true rfl) ?_
        refine r_lload rfl rfl ?_
        refine r_lstore rfl (Nat.le_of_ble_eq_true rfl) ?_
        refine r_goto rfl ?_
        have hlt := Nat.mod_lt x (show 0 < y by omega)
        refine ih y (x % y) _ _ (by omega) (by omega) (by omega) (by rw [← hg, Nat.gcd_comm x y, Nat.gcd_rec y x, Nat.gcd_comm]) (fun v => by simp)
  refine wp_in (C := c_M_divisor) (ls := [some (pR 184), some (pL a), none, some (pL b), none, none, none, none, none, none, none]) rfl rfl rfl rfl rfl ?_
  refine r_lload_n rfl rfl ?_
  refine r_lconst rfl ?_
  refine r_l_ge rfl rfl (by unfold inL; omega) l0 (fun h3 => ?_) (fun h3 => ?_)
  · skip
    refine r_lload_n rfl rfl ?_
    refine r_lstore rfl (Nat.le_of_ble_eq_true rfl) ?_
    refine r_lload_n rfl rfl ?_
    refine r_lconst rfl ?_
    refine r_l_ge rfl rfl (by unfold inL; omega) l0 (fun h12 => ?_) (fun h12 => ?_)
    · skip
      refine r_lload_n rfl rfl ?_
      refine r_lstore rfl (Nat.le_of_ble_eq_true rfl) ?_
      have := key b.natAbs a.natAbs b.natAbs none none (Nat.le_refl _) (by omega) (by omega) rfl (fun v => by simp)
      rw [show ((a.natAbs : Nat) : Int) = a by omega, show ((b.natAbs : Nat) : Int) = b by omega] at this
      exact this
    · skip
      refine r_lload_n rfl rfl ?_
      refine r_lneg rfl ?_
      refine r_goto rfl ?_
      refine r_lstore rfl (Nat.le_of_ble_eq_true rfl) ?_
      have := key b.natAbs a.natAbs b.natAbs none none (Nat.le_refl _) (by omega) (by omega) rfl (fun v => by simp)
      rw [show ((a.natAbs : Nat) : Int) = a by omega, show ((b.natAbs : Nat) : Int) = -b by omega] at this
      exact this
  · skip
    refine r_lload_n rfl rfl ?_
    refine r_lneg rfl ?_
    refine r_goto rfl ?_
    refine r_lstore rfl (Nat.le_of_ble_eq_true rfl) ?_
    refine r_lload_n rfl rfl ?_
    refine r_lconst rfl ?_
    refine r_l_ge rfl rfl (by unfold inL; omega) l0 (fun h12 => ?_) (fun h12 => ?_)
    · skip
      refine r_lload_n rfl rfl ?_
      refine r_lstore rfl (Nat.le_of_ble_eq_true rfl) ?_
      have := key b.natAbs a.natAbs b.natAbs none none (Nat.le_refl _) (by omega) (by omega) rfl (fun v => by simp)
      rw [show ((a.natAbs : Nat) : Int) = -a by omega, show ((b.natAbs : Nat) : Int) = b by omega] at this
      exact this
    · skip
      refine r_lload_n rfl rfl ?_
      refine r_lneg rfl ?_
      refine r_goto rfl ?_
      refine r_lstore rfl (Nat.le_of_ble_eq_true rfl) ?_
      have := key b.natAbs a.natAbs b.natAbs none none (Nat.le_refl _) (by omega) (by omega) rfl (fun v => by simp)
      rw [show ((a.natAbs : Nat) : Int) = -a by omega, show ((b.natAbs : Nat) : Int) = -b by omega] at this
      exact this
theorem gcd_gc {a b : Int} (hb : b ≠ 0) : ((Nat.gcd a.natAbs b.natAbs : Nat) : Int) = gc a b := by
  unfold gc
  rw [if_neg]
  intro h
  have := Nat.gcd_eq_zero_iff.mp h
  omega
theorem rd_0 {b : Int} (hb : b ≠ 0) : rdA 0 b = 0 ∧ rdB 0 b = 1 := by
  have h : sg b * gc 0 b = b := by
    rw [← gcd_gc hb]
    unfold sg
    rw [show (0 : Int).natAbs = 0 from rfl, Nat.gcd_zero_left]
    split <;> omega
  unfold rdA rdB
  rw [h]
  exact ⟨Int.zero_tdiv _, Int.tdiv_self hb⟩
theorem x_lowest {X : PX} {d : Nat} {S : SS} {zI zL : ZM} {Q : PQ} (hS : Sk S) {a b u : Int} (ha : -500000000000000 ≤ a ∧ a ≤ 500000000000000) (hb : -500000000000000 ≤ b ∧ b ≤ 500000000000000) (h0 : b ≠ 0) (hu : inI u) (hQ : Q (some (pL (if u = 0 then rdA a b else rdB a b))) S zI zL) : wpM X (d + 2) fM_lowest [pR 184, pL a, pL b, pI u] S zI zL Q := by
  have l0 : inL 0 := by unfold inL; omega
  have la : inL a := by unfold inL; omega
  have lb : inL b := by unfold inL; omega
  have gg := sg_gc ha hb (by omega)
  have lg : inL (sg b * gc a b) := by unfold inL; omega
  have rest : ∀ g : Int, g = sg b * gc a b → Run X (d + 1) c_M_lowest 24 [some (pR 184), some (pL a), none, some (pL b), none, some (pI u), none, none] [pL g] S zI zL 0 0 Q := by
    intro g hg
    subst hg
    refine r_lstore rfl (Nat.le_of_ble_eq_true rfl) ?_
    refine r_iload rfl rfl ?_
    refine r_if_ne rfl hu (fun h26 => ?_) (fun h26 => ?_)
    · skip
      refine r_lload_n rfl rfl ?_
      refine r_lload rfl rfl ?_
      refine r_ldiv rfl lb lg gg.2 ?_
      refine r_lret rfl ?_
      rw [if_neg h26] at hQ; exact hQ
    · skip
      refine r_lload_n rfl rfl ?_
      refine r_lload rfl rfl ?_
      refine r_ldiv rfl la lg gg.2 ?_
      refine r_goto rfl ?_
      refine r_lret rfl ?_
      rw [if_pos h26] at hQ; exact hQ
  refine wp_in (C := c_M_lowest) (ls := [some (pR 184), some (pL a), none, some (pL b), none, some (pI u), none, none]) rfl rfl rfl rfl rfl ?_
  refine r_lload_n rfl rfl ?_
  refine r_lconst rfl ?_
  refine r_l_ne rfl rfl la l0 (fun h3 => ?_) (fun h3 => ?_)
  · skip
    refine r_lload_n rfl rfl ?_
    refine r_lconst rfl ?_
    refine r_l_ge rfl rfl lb l0 (fun h13 => ?_) (fun h13 => ?_)
    · skip
      refine r_aload_n rfl rfl ?_
      refine r_lload_n rfl rfl ?_
      refine r_lload_n rfl rfl ?_
      refine r_cV3 rfl (so184 hS) (Nat.le_of_ble_eq_true rfl) rfl rfl (x_divisor hS ha hb ?_)
      rw [gcd_gc h0]
      exact rest _ (by unfold sg; rw [if_neg (by omega), Int.one_mul])
    · skip
      refine r_aload_n rfl rfl ?_
      refine r_lload_n rfl rfl ?_
      refine r_lload_n rfl rfl ?_
      refine r_cV3 rfl (so184 hS) (Nat.le_of_ble_eq_true rfl) rfl rfl (x_divisor hS ha hb ?_)
      rw [gcd_gc h0]
      refine r_lneg rfl ?_
      refine r_goto rfl ?_
      exact rest _ (by unfold sg; rw [if_pos (by omega)]; omega)
  · skip
    refine r_iload rfl rfl ?_
    refine r_if_ne rfl hu (fun h5 => ?_) (fun h5 => ?_)
    · skip
      refine r_lconst rfl ?_
      refine r_lret rfl ?_
      rw [h3, if_neg h5, (rd_0 h0).2] at hQ; exact hQ
    · skip
      refine r_lconst rfl ?_
      refine r_goto rfl ?_
      refine r_lret rfl ?_
      rw [h3, if_pos h5, (rd_0 h0).1] at hQ; exact hQ
def stM (z : ZM) (x xd y yd : Int) : ZM := zput (zput (zput (zput z 184 11 x) 184 12 xd) 184 13 y) 184 14 yd
theorem x_standAt {X : PX} {d : Nat} {S : SS} {zI zL : ZM} {Q : PQ} (hS : Sk S) {x a y b : Int} (hx : -500000000000000 ≤ x ∧ x ≤ 500000000000000) (ha : -500000000000000 ≤ a ∧ a ≤ 500000000000000) (h0 : a ≠ 0) (hy : -500000000000000 ≤ y ∧ y ≤ 500000000000000) (hb : -500000000000000 ≤ b ∧ b ≤ 500000000000000) (h1 : b ≠ 0) (hQ : Q none S zI (stM zL (rdA x a) (rdB x a) (rdA y b) (rdB y b))) : wpM X (d + 3) fM_standAt [pR 184, pL x, pL a, pL y, pL b] S zI zL Q := by
  refine wp_in (C := c_M_standAt) (ls := [some (pR 184), some (pL x), none, some (pL a), none, some (pL y), none, some (pL b), none]) rfl rfl rfl rfl rfl ?_
  refine r_aload_n rfl rfl ?_
  refine r_aload_n rfl rfl ?_
  refine r_lload_n rfl rfl ?_
  refine r_lload_n rfl rfl ?_
  refine r_iconst rfl ?_
  refine r_cV4 rfl (so184 hS) (Nat.le_of_ble_eq_true rfl) rfl rfl (x_lowest hS hx ha h0 (by unfold inI; omega) ?_)
  refine r_putL rfl (so184 hS) ?_
  refine r_aload_n rfl rfl ?_
  refine r_aload_n rfl rfl ?_
  refine r_lload_n rfl rfl ?_
  refine r_lload_n rfl rfl ?_
  refine r_iconst rfl ?_
  refine r_cV4 rfl (so184 hS) (Nat.le_of_ble_eq_true rfl) rfl rfl (x_lowest hS hx ha h0 (by unfold inI; omega) ?_)
  refine r_putL rfl (so184 hS) ?_
  refine r_aload_n rfl rfl ?_
  refine r_aload_n rfl rfl ?_
  refine r_lload rfl rfl ?_
  refine r_lload rfl rfl ?_
  refine r_iconst rfl ?_
  refine r_cV4 rfl (so184 hS) (Nat.le_of_ble_eq_true rfl) rfl rfl (x_lowest hS hy hb h1 (by unfold inI; omega) ?_)
  refine r_putL rfl (so184 hS) ?_
  refine r_aload_n rfl rfl ?_
  refine r_aload_n rfl rfl ?_
  refine r_lload rfl rfl ?_
  refine r_lload rfl rfl ?_
  refine r_iconst rfl ?_
  refine r_cV4 rfl (so184 hS) (Nat.le_of_ble_eq_true rfl) rfl rfl (x_lowest hS hy hb h1 (by unfold inI; omega) ?_)
  refine r_putL rfl (so184 hS) ?_
  refine r_ret rfl ?_
  exact hQ
theorem PM_st {z : ZM} {x xd y yd : Int} : PM (stM z x xd y yd) x xd y yd := by unfold PM stM zput; simp
theorem stM_row {z : ZM} {x xd y yd : Int} {c : Nat} (h : c ≠ 184) : stM z x xd y yd c = z c := by unfold stM; rw [zput_row h, zput_row h, zput_row h, zput_row h]
theorem stM_off {z : ZM} {x xd y yd k : Int} (h : k < 11 ∨ 14 < k) : stM z x xd y yd 184 k = z 184 k := by unfold stM zput; simp (disch := omega) only [if_neg]
theorem x_standC {X : PX} {d : Nat} {S : SS} {zI zL : ZM} {Q : PQ} (hS : Sk S) {c : Int} (h0 : 0 ≤ c) (h1 : c < 1560) (hQ : Q none S zI (stM zL (zL 204 (4 * c)) (zL 204 (4 * c + 1)) (zL 204 (4 * c + 2)) (zL 204 (4 * c + 3)))) : wpM X (d + 1) fM_standAtCorner [pR 184, pI c] S zI zL Q := by
  refine wp_in (C := c_M_standAtCorner) (ls := [some (pR 184), some (pI c)]) rfl rfl rfl rfl rfl ?_
  refine r_aload_n rfl rfl ?_
  refine r_aload_n rfl rfl ?_
  refine r_getR rfl (so184 hS) (sr184_34 hS) ?_
  refine r_iconst rfl ?_
  refine r_iload_n rfl rfl ?_
  refine r_imul rfl ?_
  refine r_lald rfl (sw204 hS) (by omega) (by omega) ?_
  refine r_putL rfl (so184 hS) ?_
  refine r_aload_n rfl rfl ?_
  refine r_aload_n rfl rfl ?_
  refine r_getR rfl (so184 hS) (sr184_34 hS) ?_
  refine r_iconst rfl ?_
  refine r_iload_n rfl rfl ?_
  refine r_imul rfl ?_
  refine r_iconst rfl ?_
  refine r_iadd rfl ?_
  refine r_lald rfl (sw204 hS) (by omega) (by omega) ?_
  rw [zput_row (show (204 : Nat) ≠ 184 by decide)]
  refine r_putL rfl (so184 hS) ?_
  refine r_aload_n rfl rfl ?_
  refine r_aload_n rfl rfl ?_
  refine r_getR rfl (so184 hS) (sr184_34 hS) ?_
  refine r_iconst rfl ?_
  refine r_iload_n rfl rfl ?_
  refine r_imul rfl ?_
  refine r_iconst rfl ?_
  refine r_iadd rfl ?_
  refine r_lald rfl (sw204 hS) (by omega) (by omega) ?_
  rw [zput_row (show (204 : Nat) ≠ 184 by decide), zput_row (show (204 : Nat) ≠ 184 by decide)]
  refine r_putL rfl (so184 hS) ?_
  refine r_aload_n rfl rfl ?_
  refine r_aload_n rfl rfl ?_
  refine r_getR rfl (so184 hS) (sr184_34 hS) ?_
  refine r_iconst rfl ?_
  refine r_iload_n rfl rfl ?_
  refine r_imul rfl ?_
  refine r_iconst rfl ?_
  refine r_iadd rfl ?_
  refine r_lald rfl (sw204 hS) (by omega) (by omega) ?_
  rw [zput_row (show (204 : Nat) ≠ 184 by decide), zput_row (show (204 : Nat) ≠ 184 by decide), zput_row (show (204 : Nat) ≠ 184 by decide)]
  refine r_putL rfl (so184 hS) ?_
  refine r_ret rfl ?_
  exact hQ
