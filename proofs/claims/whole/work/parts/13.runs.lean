def wpM (X : PX) : Nat → PC
  | 0 => fun _ _ _ _ _ _ => False
  | d + 1 => fun f as S zI zL Q => (entryL (mL f) as).length = mL f ∧ runL swT MC MS RC NF X (wpM X d) Q (MCode f) 0 (entryL (mL f) as) [] S zI zL (MC f) (MS f)
theorem wpM_mono (X : PX) : ∀ d, callMono (wpM X d)
  | 0 => fun _ _ _ _ _ _ _ _ h => h
  | d + 1 => fun _ _ _ _ _ _ _ hq h => ⟨h.1, runL_mono (wpM_mono X d) hq h.2⟩
abbrev Run (X : PX) (d : Nat) (C : List PI) (pc : Nat) (ls : List (Option PV)) (st : List PV) (S : SS) (zI zL : ZM) (mc ms : Nat) (Q : PQ) : Prop := runL swT MC MS RC NF X (wpM X d) Q C pc ls st S zI zL mc ms
def ob (S : SS) (h a : Nat) : Prop := S.1[h]? = some (a, 0) ∧ h < xbase
def row (S : SS) (kd h n : Nat) : Prop := S.1[h]? = some (kd, n) ∧ n ≤ 10000 ∧ h < xbase
theorem i3_toInt {a : Int} (h : inI a) : (i3 a).toInt = a := by
  unfold i3
  exact Int32.toInt_ofInt_of_le h.1 (by have := h.2; show a < 2147483648; omega)
theorem i6_toInt {a : Int} (h : inL a) : (i6 a).toInt = a := by
  unfold i6
  exact Int64.toInt_ofInt_of_le h.1 (by have := h.2; show a < 9223372036854775808; omega)
theorem i3_eq {a b : Int} (ha : inI a) (hb : inI b) : i3 a = i3 b ↔ a = b := ⟨fun h => by rw [← i3_toInt ha, ← i3_toInt hb, h], fun h => by rw [h]⟩
theorem i3_lt {a b : Int} (ha : inI a) (hb : inI b) : i3 a < i3 b ↔ a < b := by rw [Int32.lt_iff_toInt_lt, i3_toInt ha, i3_toInt hb]
theorem i3_le {a b : Int} (ha : inI a) (hb : inI b) : i3 a ≤ i3 b ↔ a ≤ b := by rw [Int32.le_iff_toInt_le, i3_toInt ha, i3_toInt hb]
theorem cmpL_eq {a b : Int} (ha : inL a) (hb : inL b) : cmpL a b = if a < b then -1 else if a = b then 0 else 1 := by
  unfold cmpL
  have h1 : i6 a < i6 b ↔ a < b := by rw [Int64.lt_iff_toInt_lt, i6_toInt ha, i6_toInt hb]
  have h2 : i6 a = i6 b ↔ a = b := ⟨fun h => by rw [← i6_toInt ha, ← i6_toInt hb, h], fun h => by rw [h]⟩
  simp only [h1, h2]
theorem cmpL_self (a : Int) : cmpL a a = 0 := by unfold cmpL; simp [Int64.lt_irrefl]
theorem in0 : inI 0 := by unfold inI; omega
section Rows
variable {X : PX} {d : Nat} {C : List PI} {pc : Nat} {ls : List (Option PV)} {st : List PV} {S : SS} {zI zL : ZM} {mc ms : Nat} {Q : PQ} {nx a b : Nat} {c : Int}
theorem r_iconst {n : Int} (h : C[pc]? = some (.iconst n, nx, a, b, c)) (k : Run X d C nx ls (pI c :: st) S zI zL mc ms Q) : Run X d C pc ls st S zI zL mc ms Q := runL_step (wpM_mono X d) h k
theorem r_bipush {n : Int} (h : C[pc]? = some (.bipush n, nx, a, b, c)) (k : Run X d C nx ls (pI c :: st) S zI zL mc ms Q) : Run X d C pc ls st S zI zL mc ms Q := runL_step (wpM_mono X d) h k
theorem r_sipush {n : Int} (h : C[pc]? = some (.sipush n, nx, a, b, c)) (k : Run X d C nx ls (pI c :: st) S zI zL mc ms Q) : Run X d C pc ls st S zI zL mc ms Q := runL_step (wpM_mono X d) h k
theorem r_ldc {n : Nat} (h : C[pc]? = some (.ldc n, nx, a, b, c)) (k : Run X d C nx ls (pI c :: st) S zI zL mc ms Q) : Run X d C pc ls st S zI zL mc ms Q := runL_step (wpM_mono X d) h k
theorem r_ldc_w {n : Nat} (h : C[pc]? = some (.ldc_w n, nx, a, b, c)) (k : Run X d C nx ls (pI c :: st) S zI zL mc ms Q) : Run X d C pc ls st S zI zL mc ms Q := runL_step (wpM_mono X d) h k
theorem r_lconst {n : Fin 2} (h : C[pc]? = some (.lconst n, nx, a, b, c)) (k : Run X d C nx ls (pL c :: st) S zI zL mc ms Q) : Run X d C pc ls st S zI zL mc ms Q := runL_step (wpM_mono X d) h k
theorem r_ldc2_w {n : Nat} (h : C[pc]? = some (.ldc2_w n, nx, a, b, c)) (k : Run X d C nx ls (pL c :: st) S zI zL mc ms Q) : Run X d C pc ls st S zI zL mc ms Q := runL_step (wpM_mono X d) h k
theorem r_iload {n : Nat} {x : Int} (h : C[pc]? = some (.iload n, nx, a, b, c)) (hl : ls[n]? = some (some (pI x))) (k : Run X d C nx ls (pI x :: st) S zI zL mc ms Q) : Run X d C pc ls st S zI zL mc ms Q := runL_step (wpM_mono X d) h (by show ldI _ _ _; unfold ldI; rw [hl]; exact k)
theorem r_iload_n {n : Fin 4} {x : Int} (h : C[pc]? = some (.iload_n n, nx, a, b, c)) (hl : ls[(n : Nat)]? = some (some (pI x))) (k : Run X d C nx ls (pI x :: st) S zI zL mc ms Q) : Run X d C pc ls st S zI zL mc ms Q := runL_step (wpM_mono X d) h (by show ldI _ _ _; unfold ldI; rw [hl]; exact k)
theorem r_lload {n : Nat} {x : Int} (h : C[pc]? = some (.lload n, nx, a, b, c)) (hl : ls[n]? = some (some (pL x))) (k : Run X d C nx ls (pL x :: st) S zI zL mc ms Q) : Run X d C pc ls st S zI zL mc ms Q := runL_step (wpM_mono X d) h (by show ldL _ _ _; unfold ldL; rw [hl]; exact k)
theorem r_lload_n {n : Fin 4} {x : Int} (h : C[pc]? = some (.lload_n n, nx, a, b, c)) (hl : ls[(n : Nat)]? = some (some (pL x))) (k : Run X d C nx ls (pL x :: st) S zI zL mc ms Q) : Run X d C pc ls st S zI zL mc ms Q := runL_step (wpM_mono X d) h (by show ldL _ _ _; unfold ldL; rw [hl]; exact k)
theorem r_aload {n : Nat} {x : Nat} (h : C[pc]? = some (.aload n, nx, a, b, c)) (hl : ls[n]? = some (some (pR x))) (k : Run X d C nx ls (pR x :: st) S zI zL mc ms Q) : Run X d C pc ls st S zI zL mc ms Q := runL_step (wpM_mono X d) h (by show ldR _ _ _; unfold ldR; rw [hl]; exact k)
theorem r_aload_n {n : Fin 4} {x : Nat} (h : C[pc]? = some (.aload_n n, nx, a, b, c)) (hl : ls[(n : Nat)]? = some (some (pR x))) (k : Run X d C nx ls (pR x :: st) S zI zL mc ms Q) : Run X d C pc ls st S zI zL mc ms Q := runL_step (wpM_mono X d) h (by show ldR _ _ _; unfold ldR; rw [hl]; exact k)
theorem r_istore {n : Nat} {x : Int} (h : C[pc]? = some (.istore n, nx, a, b, c)) (hn : n < ls.length) (k : Run X d C nx (st1 ls n (pI x)) st S zI zL mc ms Q) : Run X d C pc ls (pI x :: st) S zI zL mc ms Q := runL_step (wpM_mono X d) h ⟨hn, k⟩
theorem r_istore_n {n : Fin 4} {x : Int} (h : C[pc]? = some (.istore_n n, nx, a, b, c)) (hn : (n : Nat) < ls.length) (k : Run X d C nx (st1 ls n (pI x)) st S zI zL mc ms Q) : Run X d C pc ls (pI x :: st) S zI zL mc ms Q := runL_step (wpM_mono X d) h ⟨hn, k⟩
theorem r_lstore {n : Nat} {x : Int} (h : C[pc]? = some (.lstore n, nx, a, b, c)) (hn : n + 1 < ls.length) (k : Run X d C nx (st2 ls n (pL x)) st S zI zL mc ms Q) : Run X d C pc ls (pL x :: st) S zI zL mc ms Q := runL_step (wpM_mono X d) h ⟨hn, k⟩
theorem r_lstore_n {n : Fin 4} {x : Int} (h : C[pc]? = some (.lstore_n n, nx, a, b, c)) (hn : (n : Nat) + 1 < ls.length) (k : Run X d C nx (st2 ls n (pL x)) st S zI zL mc ms Q) : Run X d C pc ls (pL x :: st) S zI zL mc ms Q := runL_step (wpM_mono X d) h ⟨hn, k⟩
theorem r_astore {n x : Nat} (h : C[pc]? = some (.astore n, nx, a, b, c)) (hn : n < ls.length) (k : Run X d C nx (st1 ls n (pR x)) st S zI zL mc ms Q) : Run X d C pc ls (pR x :: st) S zI zL mc ms Q := runL_step (wpM_mono X d) h ⟨hn, k⟩
theorem r_astore_n {n : Fin 4} {x : Nat} (h : C[pc]? = some (.astore_n n, nx, a, b, c)) (hn : (n : Nat) < ls.length) (k : Run X d C nx (st1 ls n (pR x)) st S zI zL mc ms Q) : Run X d C pc ls (pR x :: st) S zI zL mc ms Q := runL_step (wpM_mono X d) h ⟨hn, k⟩
theorem r_iinc {n : Nat} {z x : Int} (h : C[pc]? = some (.iinc n z, nx, a, b, c)) (hl : ls[n]? = some (some (pI x))) (k : Run X d C nx (st1 ls n (pI (x + c))) st S zI zL mc ms Q) : Run X d C pc ls st S zI zL mc ms Q := runL_step (wpM_mono X d) h (by show ldI _ _ _; unfold ldI; rw [hl]; exact ⟨(List.getElem?_eq_some_iff.mp hl).1, k⟩)
theorem r_dupI {x : Int} (h : C[pc]? = some (.dup, nx, a, b, c)) (k : Run X d C nx ls (pI x :: pI x :: st) S zI zL mc ms Q) : Run X d C pc ls (pI x :: st) S zI zL mc ms Q := runL_step (wpM_mono X d) h k
theorem r_dupR {x : Nat} (h : C[pc]? = some (.dup, nx, a, b, c)) (k : Run X d C nx ls (pR x :: pR x :: st) S zI zL mc ms Q) : Run X d C pc ls (pR x :: st) S zI zL mc ms Q := runL_step (wpM_mono X d) h k
theorem r_dup2 {x : Int} {y : Nat} (h : C[pc]? = some (.dup2, nx, a, b, c)) (k : Run X d C nx ls (pI x :: pR y :: pI x :: pR y :: st) S zI zL mc ms Q) : Run X d C pc ls (pI x :: pR y :: st) S zI zL mc ms Q := runL_step (wpM_mono X d) h k
theorem r_popI {x : Int} (h : C[pc]? = some (.pop, nx, a, b, c)) (k : Run X d C nx ls st S zI zL mc ms Q) : Run X d C pc ls (pI x :: st) S zI zL mc ms Q := runL_step (wpM_mono X d) h k
theorem r_iadd {x y : Int} (h : C[pc]? = some (.iadd, nx, a, b, c)) (k : Run X d C nx ls (pI (x + y) :: st) S zI zL mc ms Q) : Run X d C pc ls (pI y :: pI x :: st) S zI zL mc ms Q := runL_step (wpM_mono X d) h k
theorem r_isub {x y : Int} (h : C[pc]? = some (.isub, nx, a, b, c)) (k : Run X d C nx ls (pI (x - y) :: st) S zI zL mc ms Q) : Run X d C pc ls (pI y :: pI x :: st) S zI zL mc ms Q := runL_step (wpM_mono X d) h k
theorem r_imul {x y : Int} (h : C[pc]? = some (.imul, nx, a, b, c)) (k : Run X d C nx ls (pI (x * y) :: st) S zI zL mc ms Q) : Run X d C pc ls (pI y :: pI x :: st) S zI zL mc ms Q := runL_step (wpM_mono X d) h k
theorem r_idiv {x y : Int} (h : C[pc]? = some (.idiv, nx, a, b, c)) (hx : inI x) (hy : inI y) (h0 : y ≠ 0) (k : Run X d C nx ls (pI (x.tdiv y) :: st) S zI zL mc ms Q) : Run X d C pc ls (pI y :: pI x :: st) S zI zL mc ms Q := runL_step (wpM_mono X d) h ⟨⟨hx, hy, h0⟩, k⟩
theorem r_irem {x y : Int} (h : C[pc]? = some (.irem, nx, a, b, c)) (hx : inI x) (hy : inI y) (h0 : y ≠ 0) (k : Run X d C nx ls (pI (x.tmod y) :: st) S zI zL mc ms Q) : Run X d C pc ls (pI y :: pI x :: st) S zI zL mc ms Q := runL_step (wpM_mono X d) h ⟨⟨hx, hy, h0⟩, k⟩
theorem r_ineg {x : Int} (h : C[pc]? = some (.ineg, nx, a, b, c)) (k : Run X d C nx ls (pI (-x) :: st) S zI zL mc ms Q) : Run X d C pc ls (pI x :: st) S zI zL mc ms Q := runL_step (wpM_mono X d) h k
theorem r_ixor {x y : Int} (h : C[pc]? = some (.ixor, nx, a, b, c)) (k : Run X d C nx ls (pI (i3 x ^^^ i3 y).toInt :: st) S zI zL mc ms Q) : Run X d C pc ls (pI y :: pI x :: st) S zI zL mc ms Q := runL_step (wpM_mono X d) h k
theorem r_iand {x y : Int} (h : C[pc]? = some (.iand, nx, a, b, c)) (k : Run X d C nx ls (pI (i3 x &&& i3 y).toInt :: st) S zI zL mc ms Q) : Run X d C pc ls (pI y :: pI x :: st) S zI zL mc ms Q := runL_step (wpM_mono X d) h k
theorem r_ladd {x y : Int} (h : C[pc]? = some (.ladd, nx, a, b, c)) (k : Run X d C nx ls (pL (x + y) :: st) S zI zL mc ms Q) : Run X d C pc ls (pL y :: pL x :: st) S zI zL mc ms Q := runL_step (wpM_mono X d) h k
theorem r_lsub {x y : Int} (h : C[pc]? = some (.lsub, nx, a, b, c)) (k : Run X d C nx ls (pL (x - y) :: st) S zI zL mc ms Q) : Run X d C pc ls (pL y :: pL x :: st) S zI zL mc ms Q := runL_step (wpM_mono X d) h k
theorem r_lmul {x y : Int} (h : C[pc]? = some (.lmul, nx, a, b, c)) (k : Run X d C nx ls (pL (x * y) :: st) S zI zL mc ms Q) : Run X d C pc ls (pL y :: pL x :: st) S zI zL mc ms Q := runL_step (wpM_mono X d) h k
theorem r_ldiv {x y : Int} (h : C[pc]? = some (.ldiv, nx, a, b, c)) (hx : inL x) (hy : inL y) (h0 : y ≠ 0) (k : Run X d C nx ls (pL (x.tdiv y) :: st) S zI zL mc ms Q) : Run X d C pc ls (pL y :: pL x :: st) S zI zL mc ms Q := runL_step (wpM_mono X d) h ⟨⟨hx, hy, h0⟩, k⟩
theorem r_lrem {x y : Int} (h : C[pc]? = some (.lrem, nx, a, b, c)) (hx : inL x) (hy : inL y) (h0 : y ≠ 0) (k : Run X d C nx ls (pL (x.tmod y) :: st) S zI zL mc ms Q) : Run X d C pc ls (pL y :: pL x :: st) S zI zL mc ms Q := runL_step (wpM_mono X d) h ⟨⟨hx, hy, h0⟩, k⟩
theorem r_lneg {x : Int} (h : C[pc]? = some (.lneg, nx, a, b, c)) (k : Run X d C nx ls (pL (-x) :: st) S zI zL mc ms Q) : Run X d C pc ls (pL x :: st) S zI zL mc ms Q := runL_step (wpM_mono X d) h k
theorem r_lor {x y : Int} (h : C[pc]? = some (.lor, nx, a, b, c)) (k : Run X d C nx ls (pL (i6 x ||| i6 y).toInt :: st) S zI zL mc ms Q) : Run X d C pc ls (pL y :: pL x :: st) S zI zL mc ms Q := runL_step (wpM_mono X d) h k
theorem r_land {x y : Int} (h : C[pc]? = some (.land, nx, a, b, c)) (k : Run X d C nx ls (pL (i6 x &&& i6 y).toInt :: st) S zI zL mc ms Q) : Run X d C pc ls (pL y :: pL x :: st) S zI zL mc ms Q := runL_step (wpM_mono X d) h k
theorem r_lshl {x y : Int} (h : C[pc]? = some (.lshl, nx, a, b, c)) (k : Run X d C nx ls (pL (i6 x <<< ((i3 y).toInt64 &&& 63)).toInt :: st) S zI zL mc ms Q) : Run X d C pc ls (pI y :: pL x :: st) S zI zL mc ms Q := runL_step (wpM_mono X d) h k
theorem r_lcmp0 {x y : Int} (h : C[pc]? = some (.lcmp, nx, a, b, c)) (k : Run X d C nx ls (pI (cmpL x y) :: st) S zI zL mc ms Q) : Run X d C pc ls (pL y :: pL x :: st) S zI zL mc ms Q := runL_step (wpM_mono X d) h k
theorem r_i2l {x : Int} (h : C[pc]? = some (.i2l, nx, a, b, c)) (hx : inI x) (k : Run X d C nx ls (pL x :: st) S zI zL mc ms Q) : Run X d C pc ls (pI x :: st) S zI zL mc ms Q := runL_step (wpM_mono X d) h ⟨hx, k⟩
theorem r_l2i {x : Int} (h : C[pc]? = some (.l2i, nx, a, b, c)) (k : Run X d C nx ls (pI x :: st) S zI zL mc ms Q) : Run X d C pc ls (pL x :: st) S zI zL mc ms Q := runL_step (wpM_mono X d) h k
theorem r_i2b {x : Int} (h : C[pc]? = some (.i2b, nx, a, b, c)) (k : Run X d C nx ls (pI ((i3 x).toInt8.toInt32).toInt :: st) S zI zL mc ms Q) : Run X d C pc ls (pI x :: st) S zI zL mc ms Q := runL_step (wpM_mono X d) h k
theorem r_goto {n : Int} (h : C[pc]? = some (.goto n, nx, a, b, c)) (k : Run X d C a ls st S zI zL mc ms Q) : Run X d C pc ls st S zI zL mc ms Q := runL_step (wpM_mono X d) h k
theorem r_if {q : ClassFile.Cond} {n x : Int} (h : C[pc]? = some (.ifCond q n, nx, a, b, c)) (kt : cmpI q x 0 → Run X d C a ls st S zI zL mc ms Q) (kf : ¬ cmpI q x 0 → Run X d C nx ls st S zI zL mc ms Q) : Run X d C pc ls (pI x :: st) S zI zL mc ms Q := runL_step (wpM_mono X d) h ⟨kt, kf⟩
theorem r_icmp {q : ClassFile.Cond} {n x y : Int} (h : C[pc]? = some (.if_icmp q n, nx, a, b, c)) (kt : cmpI q x y → Run X d C a ls st S zI zL mc ms Q) (kf : ¬ cmpI q x y → Run X d C nx ls st S zI zL mc ms Q) : Run X d C pc ls (pI y :: pI x :: st) S zI zL mc ms Q := runL_step (wpM_mono X d) h ⟨kt, kf⟩
theorem r_if_eq {n x : Int} (h : C[pc]? = some (.ifCond .eq n, nx, a, b, c)) (hx : inI x) (kt : x = 0 → Run X d C a ls st S zI zL mc ms Q) (kf : ¬ x = 0 → Run X d C nx ls st S zI zL mc ms Q) : Run X d C pc ls (pI x :: st) S zI zL mc ms Q := r_if h (fun q => kt ((i3_eq hx in0).mp q)) (fun q => kf (fun e => q ((i3_eq hx in0).mpr e)))
theorem r_if_ne {n x : Int} (h : C[pc]? = some (.ifCond .ne n, nx, a, b, c)) (hx : inI x) (kt : ¬ x = 0 → Run X d C a ls st S zI zL mc ms Q) (kf : x = 0 → Run X d C nx ls st S zI zL mc ms Q) : Run X d C pc ls (pI x :: st) S zI zL mc ms Q := r_if h (fun q => kt (fun e => q ((i3_eq hx in0).mpr e))) (fun q => kf (Decidable.byContradiction fun e => q (fun z => e ((i3_eq hx in0).mp z))))
theorem r_if_lt {n x : Int} (h : C[pc]? = some (.ifCond .lt n, nx, a, b, c)) (hx : inI x) (kt : x < 0 → Run X d C a ls st S zI zL mc ms Q) (kf : 0 ≤ x → Run X d C nx ls st S zI zL mc ms Q) : Run X d C pc ls (pI x :: st) S zI zL mc ms Q := r_if h (fun q => kt ((i3_lt hx in0).mp q)) (fun q => kf (Int.not_lt.mp fun e => q ((i3_lt hx in0).mpr e)))
theorem r_if_ge {n x : Int} (h : C[pc]? = some (.ifCond .ge n, nx, a, b, c)) (hx : inI x) (kt : 0 ≤ x → Run X d C a ls st S zI zL mc ms Q) (kf : x < 0 → Run X d C nx ls st S zI zL mc ms Q) : Run X d C pc ls (pI x :: st) S zI zL mc ms Q := r_if h (fun q => kt ((i3_le in0 hx).mp q)) (fun q => kf (Int.not_le.mp fun e => q ((i3_le in0 hx).mpr e)))
theorem r_if_gt {n x : Int} (h : C[pc]? = some (.ifCond .gt n, nx, a, b, c)) (hx : inI x) (kt : 0 < x → Run X d C a ls st S zI zL mc ms Q) (kf : x ≤ 0 → Run X d C nx ls st S zI zL mc ms Q) : Run X d C pc ls (pI x :: st) S zI zL mc ms Q := r_if h (fun q => kt ((i3_lt in0 hx).mp q)) (fun q => kf (Int.not_lt.mp fun e => q ((i3_lt in0 hx).mpr e)))
theorem r_if_le {n x : Int} (h : C[pc]? = some (.ifCond .le n, nx, a, b, c)) (hx : inI x) (kt : x ≤ 0 → Run X d C a ls st S zI zL mc ms Q) (kf : 0 < x → Run X d C nx ls st S zI zL mc ms Q) : Run X d C pc ls (pI x :: st) S zI zL mc ms Q := r_if h (fun q => kt ((i3_le hx in0).mp q)) (fun q => kf (Int.not_le.mp fun e => q ((i3_le hx in0).mpr e)))
theorem r_icmp_eq {n x y : Int} (h : C[pc]? = some (.if_icmp .eq n, nx, a, b, c)) (hx : inI x) (hy : inI y) (kt : x = y → Run X d C a ls st S zI zL mc ms Q) (kf : ¬ x = y → Run X d C nx ls st S zI zL mc ms Q) : Run X d C pc ls (pI y :: pI x :: st) S zI zL mc ms Q := r_icmp h (fun q => kt ((i3_eq hx hy).mp q)) (fun q => kf (fun e => q ((i3_eq hx hy).mpr e)))
theorem r_icmp_ne {n x y : Int} (h : C[pc]? = some (.if_icmp .ne n, nx, a, b, c)) (hx : inI x) (hy : inI y) (kt : ¬ x = y → Run X d C a ls st S zI zL mc ms Q) (kf : x = y → Run X d C nx ls st S zI zL mc ms Q) : Run X d C pc ls (pI y :: pI x :: st) S zI zL mc ms Q := r_icmp h (fun q => kt (fun e => q ((i3_eq hx hy).mpr e))) (fun q => kf (Decidable.byContradiction fun e => q (fun z => e ((i3_eq hx hy).mp z))))
theorem r_icmp_lt {n x y : Int} (h : C[pc]? = some (.if_icmp .lt n, nx, a, b, c)) (hx : inI x) (hy : inI y) (kt : x < y → Run X d C a ls st S zI zL mc ms Q) (kf : y ≤ x → Run X d C nx ls st S zI zL mc ms Q) : Run X d C pc ls (pI y :: pI x :: st) S zI zL mc ms Q := r_icmp h (fun q => kt ((i3_lt hx hy).mp q)) (fun q => kf (Int.not_lt.mp fun e => q ((i3_lt hx hy).mpr e)))
theorem r_icmp_ge {n x y : Int} (h : C[pc]? = some (.if_icmp .ge n, nx, a, b, c)) (hx : inI x) (hy : inI y) (kt : y ≤ x → Run X d C a ls st S zI zL mc ms Q) (kf : x < y → Run X d C nx ls st S zI zL mc ms Q) : Run X d C pc ls (pI y :: pI x :: st) S zI zL mc ms Q := r_icmp h (fun q => kt ((i3_le hy hx).mp q)) (fun q => kf (Int.not_le.mp fun e => q ((i3_le hy hx).mpr e)))
theorem r_icmp_gt {n x y : Int} (h : C[pc]? = some (.if_icmp .gt n, nx, a, b, c)) (hx : inI x) (hy : inI y) (kt : y < x → Run X d C a ls st S zI zL mc ms Q) (kf : x ≤ y → Run X d C nx ls st S zI zL mc ms Q) : Run X d C pc ls (pI y :: pI x :: st) S zI zL mc ms Q := r_icmp h (fun q => kt ((i3_lt hy hx).mp q)) (fun q => kf (Int.not_lt.mp fun e => q ((i3_lt hy hx).mpr e)))
theorem r_icmp_le {n x y : Int} (h : C[pc]? = some (.if_icmp .le n, nx, a, b, c)) (hx : inI x) (hy : inI y) (kt : x ≤ y → Run X d C a ls st S zI zL mc ms Q) (kf : y < x → Run X d C nx ls st S zI zL mc ms Q) : Run X d C pc ls (pI y :: pI x :: st) S zI zL mc ms Q := r_icmp h (fun q => kt ((i3_le hx hy).mp q)) (fun q => kf (Int.not_le.mp fun e => q ((i3_le hx hy).mpr e)))
/-- two answers that are the same, by the machine's own test -/
theorem r_icmp_same {n x : Int} (h : C[pc]? = some (.if_icmp .eq n, nx, a, b, c)) (k : Run X d C a ls st S zI zL mc ms Q) : Run X d C pc ls (pI x :: pI x :: st) S zI zL mc ms Q := r_icmp h (fun _ => k) (fun q => absurd rfl q)
theorem cmpL_in (x y : Int) : inI (cmpL x y) := by unfold cmpL inI; split <;> (try split) <;> omega
/-- compare two longs, then look at the outcome -/
theorem r_l_eq {n x y : Int} {p1 a0 b0 : Nat} {c0 : Int} (h0 : C[pc]? = some (.lcmp, p1, a0, b0, c0)) (h : C[p1]? = some (.ifCond .eq n, nx, a, b, c)) (hx : inL x) (hy : inL y) (kt : x = y → Run X d C a ls st S zI zL mc ms Q) (kf : ¬ x = y → Run X d C nx ls st S zI zL mc ms Q) : Run X d C pc ls (pL y :: pL x :: st) S zI zL mc ms Q := by
  refine r_lcmp0 h0 (r_if_eq h (cmpL_in _ _) (fun e => kt ?_) (fun e => kf ?_))
  · rw [cmpL_eq hx hy] at e; split at e <;> (try split at e) <;> omega
  · rw [cmpL_eq hx hy] at e; split at e <;> (try split at e) <;> omega
theorem r_l_ne {n x y : Int} {p1 a0 b0 : Nat} {c0 : Int} (h0 : C[pc]? = some (.lcmp, p1, a0, b0, c0)) (h : C[p1]? = some (.ifCond .ne n, nx, a, b, c)) (hx : inL x) (hy : inL y) (kt : ¬ x = y → Run X d C a ls st S zI zL mc ms Q) (kf : x = y → Run X d C nx ls st S zI zL mc ms Q) : Run X d C pc ls (pL y :: pL x :: st) S zI zL mc ms Q := by
  refine r_lcmp0 h0 (r_if_ne h (cmpL_in _ _) (fun e => kt ?_) (fun e => kf ?_))
  · rw [cmpL_eq hx hy] at e; split at e <;> (try split at e) <;> omega
  · rw [cmpL_eq hx hy] at e; split at e <;> (try split at e) <;> omega
theorem r_l_lt {n x y : Int} {p1 a0 b0 : Nat} {c0 : Int} (h0 : C[pc]? = some (.lcmp, p1, a0, b0, c0)) (h : C[p1]? = some (.ifCond .lt n, nx, a, b, c)) (hx : inL x) (hy : inL y) (kt : x < y → Run X d C a ls st S zI zL mc ms Q) (kf : y ≤ x → Run X d C nx ls st S zI zL mc ms Q) : Run X d C pc ls (pL y :: pL x :: st) S zI zL mc ms Q := by
  refine r_lcmp0 h0 (r_if_lt h (cmpL_in _ _) (fun e => kt ?_) (fun e => kf ?_))
  · rw [cmpL_eq hx hy] at e; split at e <;> (try split at e) <;> omega
  · rw [cmpL_eq hx hy] at e; split at e <;> (try split at e) <;> omega
theorem r_l_ge {n x y : Int} {p1 a0 b0 : Nat} {c0 : Int} (h0 : C[pc]? = some (.lcmp, p1, a0, b0, c0)) (h : C[p1]? = some (.ifCond .ge n, nx, a, b, c)) (hx : inL x) (hy : inL y) (kt : y ≤ x → Run X d C a ls st S zI zL mc ms Q) (kf : x < y → Run X d C nx ls st S zI zL mc ms Q) : Run X d C pc ls (pL y :: pL x :: st) S zI zL mc ms Q := by
  refine r_lcmp0 h0 (r_if_ge h (cmpL_in _ _) (fun e => kt ?_) (fun e => kf ?_))
  · rw [cmpL_eq hx hy] at e; split at e <;> (try split at e) <;> omega
  · rw [cmpL_eq hx hy] at e; split at e <;> (try split at e) <;> omega
theorem r_l_gt {n x y : Int} {p1 a0 b0 : Nat} {c0 : Int} (h0 : C[pc]? = some (.lcmp, p1, a0, b0, c0)) (h : C[p1]? = some (.ifCond .gt n, nx, a, b, c)) (hx : inL x) (hy : inL y) (kt : y < x → Run X d C a ls st S zI zL mc ms Q) (kf : x ≤ y → Run X d C nx ls st S zI zL mc ms Q) : Run X d C pc ls (pL y :: pL x :: st) S zI zL mc ms Q := by
  refine r_lcmp0 h0 (r_if_gt h (cmpL_in _ _) (fun e => kt ?_) (fun e => kf ?_))
  · rw [cmpL_eq hx hy] at e; split at e <;> (try split at e) <;> omega
  · rw [cmpL_eq hx hy] at e; split at e <;> (try split at e) <;> omega
theorem r_l_le {n x y : Int} {p1 a0 b0 : Nat} {c0 : Int} (h0 : C[pc]? = some (.lcmp, p1, a0, b0, c0)) (h : C[p1]? = some (.ifCond .le n, nx, a, b, c)) (hx : inL x) (hy : inL y) (kt : x ≤ y → Run X d C a ls st S zI zL mc ms Q) (kf : y < x → Run X d C nx ls st S zI zL mc ms Q) : Run X d C pc ls (pL y :: pL x :: st) S zI zL mc ms Q := by
  refine r_lcmp0 h0 (r_if_le h (cmpL_in _ _) (fun e => kt ?_) (fun e => kf ?_))
  · rw [cmpL_eq hx hy] at e; split at e <;> (try split at e) <;> omega
  · rw [cmpL_eq hx hy] at e; split at e <;> (try split at e) <;> omega
theorem r_l_same {n x : Int} {p1 a0 b0 : Nat} {c0 : Int} (h0 : C[pc]? = some (.lcmp, p1, a0, b0, c0)) (h : C[p1]? = some (.ifCond .eq n, nx, a, b, c)) (k : Run X d C a ls st S zI zL mc ms Q) : Run X d C pc ls (pL x :: pL x :: st) S zI zL mc ms Q := by
  refine r_lcmp0 h0 (r_if_eq h (cmpL_in _ _) (fun _ => k) (fun e => absurd (cmpL_self x) e))
theorem r_tsw {df lo hi x : Int} {os : Array Int} {t : Nat} (h : C[pc]? = some (.tableswitch df lo hi os, nx, a, b, c)) (hx : inI x) (ht : psw swT a lo hi x = some t) (k : Run X d C t ls st S zI zL mc ms Q) : Run X d C pc ls (pI x :: st) S zI zL mc ms Q := runL_step (wpM_mono X d) h ⟨hx, t, ht, k⟩
theorem r_lsw {df x : Int} {ps : Array (Int × Int)} {t : Nat} (h : C[pc]? = some (.lookupswitch df ps, nx, a, b, c)) (hx : inI x) (ht : plook swT a ps.toList x = some t) (k : Run X d C t ls st S zI zL mc ms Q) : Run X d C pc ls (pI x :: st) S zI zL mc ms Q := runL_step (wpM_mono X d) h ⟨hx, t, ht, k⟩
theorem r_iret {x : Int} (h : C[pc]? = some (.ireturn, nx, 0, b, c)) (k : Q (some (pI x)) S zI zL) : Run X d C pc ls [pI x] S zI zL 0 ms Q := runL_step (wpM_mono X d) h ⟨rfl, rfl, (fun h => absurd h (by decide)), k⟩
theorem r_zret {x : Int} (h : C[pc]? = some (.ireturn, nx, 1, b, c)) (hx : x = 0 ∨ x = 1) (k : Q (some (pI x)) S zI zL) : Run X d C pc ls [pI x] S zI zL 0 ms Q := runL_step (wpM_mono X d) h ⟨rfl, rfl, fun _ => hx, k⟩
theorem r_lret {x : Int} (h : C[pc]? = some (.lreturn, nx, a, b, c)) (k : Q (some (pL x)) S zI zL) : Run X d C pc ls [pL x] S zI zL 0 ms Q := runL_step (wpM_mono X d) h ⟨rfl, rfl, k⟩
theorem r_aret {x : Nat} (h : C[pc]? = some (.areturn, nx, a, b, c)) (k : Q (some (pR x)) S zI zL) : Run X d C pc ls [pR x] S zI zL 0 ms Q := runL_step (wpM_mono X d) h ⟨rfl, rfl, k⟩
theorem r_ret (h : C[pc]? = some (.return_, nx, a, b, c)) (k : Q none S zI zL) : Run X d C pc ls [] S zI zL 0 ms Q := runL_step (wpM_mono X d) h ⟨rfl, rfl, k⟩
theorem r_getI {n o : Nat} (h : C[pc]? = some (.getfield n, nx, a, 0, c)) (ho : ob S o a) (k : Run X d C nx ls (pI (zI o c) :: st) S zI zL mc ms Q) : Run X d C pc ls (pR o :: st) S zI zL mc ms Q := runL_step (wpM_mono X d) h ⟨ho, k⟩
theorem r_getZ {n o : Nat} (h : C[pc]? = some (.getfield n, nx, a, 3, c)) (ho : ob S o a) (k : Run X d C nx ls (pI (zI o c) :: st) S zI zL mc ms Q) : Run X d C pc ls (pR o :: st) S zI zL mc ms Q := runL_step (wpM_mono X d) h ⟨ho, k⟩
theorem r_getL {n o : Nat} (h : C[pc]? = some (.getfield n, nx, a, 1, c)) (ho : ob S o a) (k : Run X d C nx ls (pL (zL o c) :: st) S zI zL mc ms Q) : Run X d C pc ls (pR o :: st) S zI zL mc ms Q := runL_step (wpM_mono X d) h ⟨ho, k⟩
theorem r_getR {n o v : Nat} (h : C[pc]? = some (.getfield n, nx, a, 2, c)) (ho : ob S o a) (hv : S.2 o c = some v) (k : Run X d C nx ls (pR v :: st) S zI zL mc ms Q) : Run X d C pc ls (pR o :: st) S zI zL mc ms Q := runL_step (wpM_mono X d) h ⟨ho, by rw [show rdF S zI zL 2 o c = pR v by show Sum.inr (Sum.inr (S.2 o c)) = _; rw [hv]]; exact k⟩
theorem r_putI {n o : Nat} {x : Int} (h : C[pc]? = some (.putfield n, nx, a, 0, c)) (ho : ob S o a) (k : Run X d C nx ls st S (zput zI o c x) zL mc ms Q) : Run X d C pc ls (pI x :: pR o :: st) S zI zL mc ms Q := runL_step (wpM_mono X d) h ⟨ho, k⟩
theorem r_putIf {n o : Nat} {x : Int} (h : C[pc]? = some (.putfield n, nx, a, 10, c)) (ho : ob S o a) (k : Run X d C nx ls st S (zput zI o c x) zL mc ms Q) : Run X d C pc ls (pI x :: pR o :: st) S zI zL mc ms Q := runL_step (wpM_mono X d) h ⟨ho, k⟩
theorem r_putL {n o : Nat} {x : Int} (h : C[pc]? = some (.putfield n, nx, a, 1, c)) (ho : ob S o a) (k : Run X d C nx ls st S zI (zput zL o c x) mc ms Q) : Run X d C pc ls (pL x :: pR o :: st) S zI zL mc ms Q := runL_step (wpM_mono X d) h ⟨ho, k⟩
theorem r_putZ {n o : Nat} {x : Int} (h : C[pc]? = some (.putfield n, nx, a, 3, c)) (ho : ob S o a) (hx : x = 0 ∨ x = 1) (k : Run X d C nx ls st S (zput zI o c x) zL mc ms Q) : Run X d C pc ls (pI x :: pR o :: st) S zI zL mc ms Q := runL_step (wpM_mono X d) h ⟨ho, hx, k⟩
theorem r_putR {n o v : Nat} (h : C[pc]? = some (.putfield n, nx, a, 12, c)) (ho : ob S o a) (k : Run X d C nx ls st (S.1, rput S.2 o c (some v)) zI zL mc ms Q) : Run X d C pc ls (pR v :: pR o :: st) S zI zL mc ms Q := runL_step (wpM_mono X d) h ⟨ho, k⟩
theorem r_gets {n : Nat} (h : C[pc]? = some (.getstatic n, nx, a, b, c)) (k : Run X d C nx ls (pR (xbase + a) :: st) S zI zL mc ms Q) : Run X d C pc ls st S zI zL mc ms Q := runL_step (wpM_mono X d) h k
theorem r_iald {o n : Nat} {i : Int} (h : C[pc]? = some (.iaload, nx, a, b, c)) (ho : row S 12 o n) (h0 : 0 ≤ i) (h1 : i < n) (k : Run X d C nx ls (pI (zI o i) :: st) S zI zL mc ms Q) : Run X d C pc ls (pI i :: pR o :: st) S zI zL mc ms Q := runL_step (wpM_mono X d) h (by show elI S X zI o i (fun x => Run X d C nx ls (pI x :: st) S zI zL mc ms Q); unfold elI; rw [if_pos ho.2.2]; exact ⟨⟨n, ho.1, h0, h1, ho.2.1⟩, k⟩)
theorem r_ixld {e : Nat} {i : Int} (h : C[pc]? = some (.iaload, nx, a, b, c)) (he : e < 4) (hs : (X e).1 ≤ 100000) (h0 : 0 ≤ i) (h1 : i < (X e).1) (k : Run X d C nx ls (pI ((X e).2 i) :: st) S zI zL mc ms Q) : Run X d C pc ls (pI i :: pR (xbase + e) :: st) S zI zL mc ms Q := runL_step (wpM_mono X d) h (by show elI S X zI (xbase + e) i (fun x => Run X d C nx ls (pI x :: st) S zI zL mc ms Q); unfold elI; rw [if_neg (by omega), Nat.add_sub_cancel_left]; exact ⟨⟨he, hs, h0, h1⟩, k⟩)
theorem r_bald {o n : Nat} {i : Int} (h : C[pc]? = some (.baload, nx, a, b, c)) (ho : row S 14 o n) (h0 : 0 ≤ i) (h1 : i < n) (k : Run X d C nx ls (pI (zI o i) :: st) S zI zL mc ms Q) : Run X d C pc ls (pI i :: pR o :: st) S zI zL mc ms Q := runL_step (wpM_mono X d) h ⟨⟨⟨n, ho.1, h0, h1, ho.2.1⟩, ho.2.2⟩, k⟩
theorem r_lald {o n : Nat} {i : Int} (h : C[pc]? = some (.laload, nx, a, b, c)) (ho : row S 13 o n) (h0 : 0 ≤ i) (h1 : i < n) (k : Run X d C nx ls (pL (zL o i) :: st) S zI zL mc ms Q) : Run X d C pc ls (pI i :: pR o :: st) S zI zL mc ms Q := runL_step (wpM_mono X d) h ⟨⟨⟨n, ho.1, h0, h1, ho.2.1⟩, ho.2.2⟩, k⟩
theorem r_aald {kd o n v : Nat} {i : Int} (h : C[pc]? = some (.aaload, nx, a, b, c)) (ho : row S kd o n) (hk : kd = 15 ∨ kd = 16 ∨ kd = 17) (h0 : 0 ≤ i) (h1 : i < n) (hv : S.2 o i = some v) (k : Run X d C nx ls (pR v :: st) S zI zL mc ms Q) : Run X d C pc ls (pI i :: pR o :: st) S zI zL mc ms Q := runL_step (wpM_mono X d) h ⟨⟨by
  rcases hk with rfl | rfl | rfl
  · exact Or.inl ⟨n, ho.1, h0, h1, ho.2.1⟩
  · exact Or.inr (Or.inl ⟨n, ho.1, h0, h1, ho.2.1⟩)
  · exact Or.inr (Or.inr ⟨n, ho.1, h0, h1, ho.2.1⟩), ho.2.2⟩, by rw [hv]; exact k⟩
theorem r_iast {o n : Nat} {i x : Int} (h : C[pc]? = some (.iastore, nx, a, b, c)) (ho : row S 12 o n) (h0 : 0 ≤ i) (h1 : i < n) (k : Run X d C nx ls st S (zput zI o i x) zL mc ms Q) : Run X d C pc ls (pI x :: pI i :: pR o :: st) S zI zL mc ms Q := runL_step (wpM_mono X d) h ⟨⟨⟨n, ho.1, h0, h1, ho.2.1⟩, ho.2.2⟩, k⟩
theorem r_bast {o n : Nat} {i x : Int} (h : C[pc]? = some (.bastore, nx, a, b, c)) (ho : row S 14 o n) (h0 : 0 ≤ i) (h1 : i < n) (hx : x = 0 ∨ x = 1) (k : Run X d C nx ls st S (zput zI o i x) zL mc ms Q) : Run X d C pc ls (pI x :: pI i :: pR o :: st) S zI zL mc ms Q := runL_step (wpM_mono X d) h ⟨⟨⟨n, ho.1, h0, h1, ho.2.1⟩, ho.2.2⟩, hx, k⟩
theorem r_last {o n : Nat} {i x : Int} (h : C[pc]? = some (.lastore, nx, a, b, c)) (ho : row S 13 o n) (h0 : 0 ≤ i) (h1 : i < n) (k : Run X d C nx ls st S zI (zput zL o i x) mc ms Q) : Run X d C pc ls (pL x :: pI i :: pR o :: st) S zI zL mc ms Q := runL_step (wpM_mono X d) h ⟨⟨⟨n, ho.1, h0, h1, ho.2.1⟩, ho.2.2⟩, k⟩
theorem r_aast {kd q o n v : Nat} {i : Int} (h : C[pc]? = some (.aastore, nx, a, b, c)) (ho : row S kd o n) (hk : (kd = 15 ∧ q = 3) ∨ (kd = 16 ∧ q = 1) ∨ (kd = 17 ∧ q = 7)) (hv : ob S v q) (h0 : 0 ≤ i) (h1 : i < n) (k : Run X d C nx ls st (S.1, rput S.2 o i (some v)) zI zL mc ms Q) : Run X d C pc ls (pR v :: pI i :: pR o :: st) S zI zL mc ms Q := runL_step (wpM_mono X d) h ⟨⟨by
  rcases hk with ⟨rfl, rfl⟩ | ⟨rfl, rfl⟩ | ⟨rfl, rfl⟩
  · exact Or.inl ⟨⟨n, ho.1, h0, h1, ho.2.1⟩, hv.1⟩
  · exact Or.inr (Or.inl ⟨⟨n, ho.1, h0, h1, ho.2.1⟩, hv.1⟩)
  · exact Or.inr (Or.inr ⟨⟨n, ho.1, h0, h1, ho.2.1⟩, hv.1⟩), ho.2.2, hv.2⟩, k⟩
theorem r_alen {kd o n : Nat} (h : C[pc]? = some (.arraylength, nx, a, b, c)) (ho : row S kd o n) (hk : 12 ≤ kd) (k : Run X d C nx ls (pI n :: st) S zI zL mc ms Q) : Run X d C pc ls (pR o :: st) S zI zL mc ms Q := runL_step (wpM_mono X d) h (by
  show (if o < xbase then _ else _)
  rw [if_pos ho.2.2]; exact ⟨n, kd, hk, ho.1, k⟩)
theorem r_xlen {e : Nat} (h : C[pc]? = some (.arraylength, nx, a, b, c)) (he : e < 4) (k : Run X d C nx ls (pI (X e).1 :: st) S zI zL mc ms Q) : Run X d C pc ls (pR (xbase + e) :: st) S zI zL mc ms Q := runL_step (wpM_mono X d) h (by
  show (if _ < xbase then _ else _)
  rw [if_neg (by omega), Nat.add_sub_cancel_left]; exact ⟨he, k⟩)
theorem r_newa {t : ArrayType} {n : Int} {m : Nat} (h : C[pc]? = some (.newarray t, nx, a, b, c)) (hn : n = m) (h1 : m ≤ 10000) (h2 : 1 ≤ mc) (h3 : m ≤ ms) (h4 : S.1.length < 10000) (k : Run X d C nx ls (pR S.1.length :: st) (S.1 ++ [(a, m)], S.2) (zrow zI S.1.length fun _ => 0) (zrow zL S.1.length fun _ => 0) (mc - 1) (ms - m) Q) : Run X d C pc ls (pI n :: st) S zI zL mc ms Q := by
  subst hn
  exact runL_step (wpM_mono X d) h ⟨⟨by omega, by omega, h2, by rw [Int.toNat_natCast]; exact h3, h4⟩, by rw [Int.toNat_natCast]; exact k⟩
theorem r_newq {t : Nat} {n : Int} {m : Nat} (h : C[pc]? = some (.anewarray t, nx, a, b, c)) (hn : n = m) (h1 : m ≤ 10000) (h2 : 1 ≤ mc) (h3 : m ≤ ms) (h4 : S.1.length < 10000) (k : Run X d C nx ls (pR S.1.length :: st) (S.1 ++ [(a, m)], rrow S.2 S.1.length) zI zL (mc - 1) (ms - m) Q) : Run X d C pc ls (pI n :: st) S zI zL mc ms Q := by
  subst hn
  exact runL_step (wpM_mono X d) h ⟨⟨by omega, by omega, h2, by rw [Int.toNat_natCast]; exact h3, h4⟩, by rw [Int.toNat_natCast]; exact k⟩
theorem r_new {t : Nat} (h : C[pc]? = some (.new t, nx, a, b, c)) (h2 : 1 ≤ mc) (h3 : NF a ≤ ms) (h4 : S.1.length < 10000) (k : Run X d C nx ls (pR S.1.length :: st) (S.1 ++ [(a, 0)], rrow S.2 S.1.length) (zrow zI S.1.length fun _ => 0) (zrow zL S.1.length fun _ => 0) (mc - 1) (ms - NF a) Q) : Run X d C pc ls st S zI zL mc ms Q := runL_step (wpM_mono X d) h ⟨⟨h2, h3, h4⟩, k⟩
theorem r_obj {t o : Nat} (h : C[pc]? = some (.invokespecial t, nx, a, b, 5)) (hp : pcats st ≤ 8) (k : Run X d C nx ls st S zI zL mc ms Q) : Run X d C pc ls (pR o :: st) S zI zL mc ms Q := runL_step (wpM_mono X d) h ⟨hp, k⟩
/-- a call: 'as' the arguments, the receiver first, 'st' what lies below -/
theorem r_callV {t o : Nat} {as : List PV} {st0 : List PV} (h : C[pc]? = some (.invokevirtual t, nx, a, b, c)) (hs : st0 = as.reverse ++ st) (hb : as.length = b) (ho : as[0]? = some (pR o)) (hr : ob S o (RC a)) (hp : pcats st ≤ 8) (h1 : MC a ≤ mc) (h2 : MS a ≤ ms)
    (k : wpM X d a as S zI zL (fun r S' zI' zL' => Run X d C nx ls (r.toList ++ st) S' zI' zL' (mc - MC a) (ms - MS a) Q)) : Run X d C pc ls st0 S zI zL mc ms Q := by
  have hb' : as.reverse.length = b := by rw [List.length_reverse, hb]
  refine runL_step (wpM_mono X d) h ⟨?_, ?_, ?_, h1, h2, ?_⟩
  · unfold recv
    have e : st0[b - 1]? = some (.inr (.inr (some o))) := by
      have hpos : 0 < as.length := (List.getElem?_eq_some_iff.mp ho).1
      rw [hs, List.getElem?_append_left (by omega), List.getElem?_reverse (by omega)]
      rw [show as.length - 1 - (b - 1) = 0 by omega]; exact ho
    rw [e]; exact hr
  · rw [hs, List.length_append, hb']; omega
  · rw [hs, List.drop_left' hb']; exact hp
  · rw [hs, List.drop_left' hb', List.take_left' hb', List.reverse_reverse]; exact k
theorem r_callS {t : Nat} {as : List PV} {st0 : List PV} (h : C[pc]? = some (.invokestatic t, nx, a, b, c)) (hc : c ≠ 6) (hs : st0 = as.reverse ++ st) (hb : as.length = b) (hp : pcats st ≤ 8) (h1 : MC a ≤ mc) (h2 : MS a ≤ ms)
    (k : wpM X d a as S zI zL (fun r S' zI' zL' => Run X d C nx ls (r.toList ++ st) S' zI' zL' (mc - MC a) (ms - MS a) Q)) : Run X d C pc ls st0 S zI zL mc ms Q := by
  have hb' : as.reverse.length = b := by rw [List.length_reverse, hb]
  refine runL_step (wpM_mono X d) h ?_
  show (if c = 6 then _ else _)
  rw [if_neg hc]
  refine ⟨?_, ?_, h1, h2, ?_⟩
  · rw [hs, List.length_append, hb']; omega
  · rw [hs, List.drop_left' hb']; exact hp
  · rw [hs, List.drop_left' hb', List.take_left' hb', List.reverse_reverse]; exact k
theorem r_callI {t o : Nat} {as : List PV} {st0 : List PV} (h : C[pc]? = some (.invokespecial t, nx, a, b, c)) (hc : c ≠ 5) (hs : st0 = as.reverse ++ st) (hb : as.length = b) (ho : as[0]? = some (pR o)) (hp : pcats st ≤ 8) (h1 : MC a ≤ mc) (h2 : MS a ≤ ms)
    (k : wpM X d a as S zI zL (fun r S' zI' zL' => Run X d C nx ls (r.toList ++ st) S' zI' zL' (mc - MC a) (ms - MS a) Q)) : Run X d C pc ls st0 S zI zL mc ms Q := by
  have hb' : as.reverse.length = b := by rw [List.length_reverse, hb]
  refine runL_step (wpM_mono X d) h ?_
  show (if c = 5 then _ else _)
  rw [if_neg hc]
  refine ⟨?_, ?_, ?_, h1, h2, ?_⟩
  · unfold recvA
    have e : st0[b - 1]? = some (.inr (.inr (some o))) := by
      have hpos : 0 < as.length := (List.getElem?_eq_some_iff.mp ho).1
      rw [hs, List.getElem?_append_left (by omega), List.getElem?_reverse (by omega)]
      rw [show as.length - 1 - (b - 1) = 0 by omega]; exact ho
    rw [e]; trivial
  · rw [hs, List.length_append, hb']; omega
  · rw [hs, List.drop_left' hb']; exact hp
  · rw [hs, List.drop_left' hb', List.take_left' hb', List.reverse_reverse]; exact k
theorem r_acopyI {t src dst n0 n1 : Nat} {sp dp n : Int} (h : C[pc]? = some (.invokestatic t, nx, a, b, 6)) (h0 : row S 12 src n0) (h1 : row S 12 dst n1) (hp : pcats st ≤ 8) (a0 : 0 ≤ sp) (a1 : 0 ≤ dp) (a2 : 0 ≤ n) (a3 : sp + n ≤ n0) (a4 : dp + n ≤ n1)
    (k : Run X d C nx ls st S (zrow zI dst (cpI (zI src) (zI dst) sp dp n)) zL mc ms Q) : Run X d C pc ls (pI n :: pI dp :: pR dst :: pI sp :: pR src :: st) S zI zL mc ms Q :=
  runL_step (wpM_mono X d) h ⟨hp, 12, n0, n1, h0.1, h1.1, h0.2.2, h1.2.2, h0.2.1, h1.2.1, a0, a1, a2, a3, a4, Or.inl ⟨rfl, k⟩⟩
theorem r_acopyL {t src dst n0 n1 : Nat} {sp dp n : Int} (h : C[pc]? = some (.invokestatic t, nx, a, b, 6)) (h0 : row S 13 src n0) (h1 : row S 13 dst n1) (hp : pcats st ≤ 8) (a0 : 0 ≤ sp) (a1 : 0 ≤ dp) (a2 : 0 ≤ n) (a3 : sp + n ≤ n0) (a4 : dp + n ≤ n1)
    (k : Run X d C nx ls st S zI (zrow zL dst (cpI (zL src) (zL dst) sp dp n)) mc ms Q) : Run X d C pc ls (pI n :: pI dp :: pR dst :: pI sp :: pR src :: st) S zI zL mc ms Q :=
  runL_step (wpM_mono X d) h ⟨hp, 13, n0, n1, h0.1, h1.1, h0.2.2, h1.2.2, h0.2.1, h1.2.1, a0, a1, a2, a3, a4, Or.inr ⟨rfl, k⟩⟩
/-- a method's start -/
theorem wp_in {f : Nat} {as : List PV} (hC : MCode f = C) (hl : entryL (mL f) as = ls) (hn : ls.length = mL f) (h1 : MC f = mc) (h2 : MS f = ms) (k : Run X d C 0 ls [] S zI zL mc ms Q) : wpM X (d + 1) f as S zI zL Q := by
  subst hC; subst hl; subst h1; subst h2; exact ⟨hn, k⟩
theorem wp_imp {f : Nat} {as : List PV} {Q' : PQ} (h : wpM X d f as S zI zL Q') (hq : ∀ r S zI zL, Q' r S zI zL → Q r S zI zL) : wpM X d f as S zI zL Q := wpM_mono X d _ _ _ _ _ _ _ hq h
end Rows
