/-! SOUNDNESS, second half: the contracts, and every instruction -/
def KNO (D : va_G) (ex : Nat → Nat) (X : PX) (bs : Nat) (s : State) : Prop :=
  va_K D vwCl [] s ∧ (∀ e, e < 4 → va_T .int (ex e) (X e).1 (fun j => .int (i3 ((X e).2 (j : Int)))) (fun q => bs ≤ q) s s.heap) ∧ (∀ a, a = 1 ∨ a = 2 ∨ a = 3 → va_Z "CornerCurves" (stN a) "[I" (.ref (ex a)) (fun q => bs ≤ q) s s.heap) ∧ (∀ w ∈ nestW, va_Nw w s) ∧ ∀ kd, kd = 15 ∨ kd = 16 ∨ kd = 17 → va_AO (arN kd) s
theorem nest_onT : ∀ w ∈ nestW, w.onTables = true := by
  intro w hw
  have h := (List.mem_filter.mp hw).2
  cases w <;> first | rfl | cases h
theorem nest_warm {s U : State} (hW : s.WarmedH U.vm) (h : ∀ w ∈ nestW, va_Nw w s) : ∀ w ∈ nestW, va_Nw w U := by
  intro w hw
  have h1 := (List.mem_filter.mp hw).2
  have h2 := h w hw
  cases w <;> first | cases h1; done | exact va_Nw.warmF hW h2 | exact va_Nw.warmM hW h2
theorem KNO_warm {D : va_G} {ex : Nat → Nat} {X : PX} {bs : Nat} {s U : State} {locs : List Loc} (hW : s.WarmedH U.vm) (hS : va_S (fun q => bs ≤ q) s.heap U.heap locs) (h : KNO D ex X bs s) : KNO D ex X bs U := by
  obtain ⟨h1, h2, h3, h4, h5⟩ := h
  have ha := hW.alike
  exact ⟨va_K.moved ha h1, fun e he => ((h2 e he).moved ha).kept hS.2.1, fun a q => ((h3 a q).moved ha).kept hS.2.1, nest_warm hW h4, fun kd q => (h5 kd q).moved ha⟩
def PcO (D : va_G) (bs : Nat) (ex : Nat → Nat) (X : PX) (as : List PV) (S : SS) (zI zL : ZM) : Array Value → State → Prop :=
  va_Pc (as.map (tv bs ex)) fun U => KNO D ex X bs U ∧ bs ≤ U.heap.size ∧ ∃ cA, va_P D vwCl (wlO bs ex cA S zI zL) U.heap ∧ U.heap.size = bs + S.1.length ∧ ARO cA S U
def QcO (D : va_G) (bs : Nat) (ex : Nat → Nat) (n : Nat) (Q : PQ) : Array Value → State → Outcome → State → Prop := fun _ st oc t =>
  (∃ (r : Option PV) (S' : SS) (zI' zL' : ZM), oc = .returned (r.map (tv bs ex)) ∧ Q r S' zI' zL' ∧ ∃ cA, va_P D vwCl (wlO bs ex cA S' zI' zL') t.heap ∧ t.heap.size = bs + S'.1.length ∧ ARO cA S' t) ∧ t.heap.size = st.heap.size + n ∧ va_F (fun q => bs ≤ q) st t
def wsO (f : Nat) : List Cond := .code (mY f) (mB f) (mL f) (mR f) :: BIG
def rmO (d f : Nat) : Room := { frames := d, cells := MC f, slots := MS f, locals := 60 * d }
theorem ARO.moved {cA : Nat → ClassId} {S : SS} {u U : State} (hvm : u.vm.Alike U.vm) (h : ARO cA S u) : ARO cA S U := fun i kd n hi hk => ⟨arrOfT_moved hvm (h i kd n hi hk).1, (h i kd n hi hk).2.moved hvm⟩
theorem PcO_blind (D : va_G) (bs : Nat) (ex : Nat → Nat) (X : PX) (as : List PV) (S : SS) (zI zL : ZM) : FrameBlind (PcO D bs ex X as S zI zL) := by
  intro a U g mk h
  obtain ⟨h0, ⟨h1, h2, h3, h4, h5⟩, hb, cA, g1, g2, g3⟩ := h
  have ha : U.vm.Alike (U.calling g mk a).vm := Vm.Alike.refl U.vm
  exact ⟨h0, ⟨va_K.moved ha h1, fun e he => (h2 e he).moved (U := U.calling g mk a) ha, fun q z => (h3 q z).moved (U := U.calling g mk a) ha, fun w hw => va_Nw.same (u := U) (nest_onT w hw) rfl (h4 w hw), fun kd z => (h5 kd z).moved ha⟩, hb, cA, g1, g2, g3.moved ha⟩
theorem mL_le : ∀ f, f < 215 → mL f ≤ 41 := by decide +kernel
theorem popI_el {st : List PV} {k : Int → List PV → Prop} (h : popI st k) : ∃ a r, st = pI a :: r ∧ k a r := by
  unfold popI at h; split at h
  · exact ⟨_, _, rfl, h⟩
  · exact h.elim
theorem popL_el {st : List PV} {k : Int → List PV → Prop} (h : popL st k) : ∃ a r, st = pL a :: r ∧ k a r := by
  unfold popL at h; split at h
  · exact ⟨_, _, rfl, h⟩
  · exact h.elim
theorem popR_el {st : List PV} {k : Nat → List PV → Prop} (h : popR st k) : ∃ a r, st = pR a :: r ∧ k a r := by
  unfold popR at h; split at h
  · exact ⟨_, _, rfl, h⟩
  · exact h.elim
theorem popV_el {st : List PV} {k : PV → List PV → Prop} (h : popV st k) : ∃ a r, st = a :: r ∧ pcat a = 1 ∧ k a r := by
  unfold popV at h; split at h
  · exact ⟨_, _, rfl, rfl, h⟩
  · exact ⟨_, _, rfl, rfl, h⟩
  · exact h.elim
theorem ldI_el {ls : List (Option PV)} {i : Nat} {k : Int → Prop} (h : ldI ls i k) : ∃ a, ls[i]? = some (some (pI a)) ∧ k a := by
  unfold ldI at h; split at h
  · rename_i a e; exact ⟨a, e, h⟩
  · exact h.elim
theorem ldL_el {ls : List (Option PV)} {i : Nat} {k : Int → Prop} (h : ldL ls i k) : ∃ a, ls[i]? = some (some (pL a)) ∧ k a := by
  unfold ldL at h; split at h
  · rename_i a e; exact ⟨a, e, h⟩
  · exact h.elim
theorem ldR_el {ls : List (Option PV)} {i : Nat} {k : Nat → Prop} (h : ldR ls i k) : ∃ a, ls[i]? = some (some (pR a)) ∧ k a := by
  unfold ldR at h; split at h
  · rename_i a e; exact ⟨a, e, h⟩
  · exact h.elim
theorem ad_lt {bs : Nat} {ex : Nat → Nat} {h : Nat} (hx : h < xbase) : ad bs ex h = bs + h := by unfold ad; rw [if_pos hx]
theorem ad_ge {bs : Nat} {ex : Nat → Nat} {h : Nat} (hx : ¬ h < xbase) : ad bs ex h = ex (h - xbase) := by unfold ad; rw [if_neg hx]
theorem tvR {bs : Nat} {ex : Nat → Nat} {h : Nat} (hx : h < xbase) : tv bs ex (pR h) = .ref (bs + h) := by show Value.ref (ad bs ex h) = _; rw [ad_lt hx]
theorem ck1 {bytes : ByteArray} {q n nq : Nat} {i : Instr} (h : (dk bytes q i n && nq == q + n) = true) : decode bytes q = .ok (i, n) ∧ nq = q + n := by
  unfold dk at h
  simp only [Bool.and_eq_true, decide_eq_true_eq, beq_iff_eq] at h
  exact h
theorem chkG_at {oi : Nat} {bytes : ByteArray} {ret : Option FieldType} {ii : Bool} {pcs : List Nat} : ∀ (C : List PI) (qs : List Nat), chkG oi bytes ret ii pcs C qs = true → ∀ (pc : Nat) (ins : PI), C[pc]? = some ins → chkI oi bytes ret ii pcs (qs.getD pc 0) ins = true
  | [], _, _, _, _, h => by simp at h
  | _ :: _, [], hc, _, _, _ => by cases hc
  | i :: r, q :: qs, hc, pc, ins, h => by
    unfold chkG at hc
    rw [Bool.and_eq_true] at hc
    cases pc with
    | zero => cases h; exact hc.1
    | succ n => exact chkG_at r qs hc.2 n ins (by simpa using h)
theorem i3_add (x y : Int) : i3 (x + y) = i3 x + i3 y := Int32.ofInt_add x y
theorem i3_sub (x y : Int) : i3 (x - y) = i3 x - i3 y := Int32.ofInt_sub x y
theorem i3_mul (x y : Int) : i3 (x * y) = i3 x * i3 y := Int32.ofInt_mul x y
theorem i3_neg (x : Int) : i3 (-x) = -i3 x := Int32.ofInt_neg x
theorem i6_add (x y : Int) : i6 (x + y) = i6 x + i6 y := Int64.ofInt_add x y
theorem i6_sub (x y : Int) : i6 (x - y) = i6 x - i6 y := Int64.ofInt_sub x y
theorem i6_mul (x y : Int) : i6 (x * y) = i6 x * i6 y := Int64.ofInt_mul x y
theorem i6_neg (x : Int) : i6 (-x) = -i6 x := Int64.ofInt_neg x
theorem i3_toI (x : Int32) : i3 x.toInt = x := Int32.ofInt_toInt x
theorem i6_toI (x : Int64) : i6 x.toInt = x := Int64.ofInt_toInt x
theorem i3_div {x y : Int} (hx : inI x) (hy : inI y) : i3 (x.tdiv y) = i3 x / i3 y := Int32.ofInt_tdiv hx.1 (show x ≤ 2147483647 from hx.2) hy.1 (show y ≤ 2147483647 from hy.2)
theorem i6_div {x y : Int} (hx : inL x) (hy : inL y) : i6 (x.tdiv y) = i6 x / i6 y := Int64.ofInt_tdiv hx.1 (show x ≤ 9223372036854775807 from hx.2) hy.1 (show y ≤ 9223372036854775807 from hy.2)
theorem i3_mod {x y : Int} (hx : inI x) (hy : inI y) : i3 (x.tmod y) = i3 x - i3 x / i3 y * i3 y := by rw [← i3_div hx hy, ← i3_mul, ← i3_sub, Int.tmod_def, Int.mul_comm]
theorem i6_mod {x y : Int} (hx : inL x) (hy : inL y) : i6 (x.tmod y) = i6 x - i6 x / i6 y * i6 y := by rw [← i6_div hx hy, ← i6_mul, ← i6_sub, Int.tmod_def, Int.mul_comm]
theorem i3_ne0 {y : Int} (hy : inI y) (h : y ≠ 0) : ¬ i3 y = 0 := fun e => h ((i3_eq hy in0).mp e)
theorem i6_ne0 {y : Int} (hy : inL y) (h : y ≠ 0) : ¬ i6 y = 0 := by
  intro e
  apply h
  have h1 : (i6 y).toInt = 0 := by rw [e]; rfl
  rwa [i6_toInt hy] at h1
theorem i6_of3 {x : Int} (h : inI x) : (i3 x).toInt64 = i6 x := by rw [← Int64.toInt_inj, Int32.toInt_toInt64, i3_toInt h, i6_toInt (by unfold inL; unfold inI at h; omega)]
theorem i3_of6 (x : Int) : (i6 x).toInt32 = i3 x := Int64.toInt32_ofInt
theorem cmpL_lg (x y : Int) : i3 (cmpL x y) = lg_cmp (i6 x) (i6 y) := by
  unfold cmpL lg_cmp
  rcases Int.lt_trichotomy (i6 x).toInt (i6 y).toInt with h | h | h
  · rw [if_pos (Int64.lt_iff_toInt_lt.mpr h), if_neg (fun q => by have := Int64.lt_iff_toInt_lt.mp q; omega), if_neg (fun q => by rw [q] at h; omega)]; rfl
  · have e : i6 x = i6 y := Int64.toInt_inj.mp h
    rw [e]; simp [Int64.lt_irrefl]; rfl
  · rw [if_neg (fun q => by have := Int64.lt_iff_toInt_lt.mp q; omega), if_neg (fun q => by rw [q] at h; omega), if_pos (Int64.lt_iff_toInt_lt.mpr h)]; rfl

theorem KNA {D : va_G} {s : State} {cA : ClassId} {ty : FieldType} (h : va_K D vwCl [] s) (h2 : ArrOfT s cA ty ∧ va_RA s cA ty) : va_K D vwCl [(cA, ty)] s := ⟨h.1, fun k q hk => by
  have hz : k < 1 := (List.getElem?_eq_some_iff.mp hk).1
  rw [show k = 0 by omega] at hk
  cases hk
  exact h2⟩
theorem tag_int {t : FieldType} (h : tagOf t = 0) : t = .int := by unfold tagOf at h; split at h <;> first | rfl | omega
theorem tag_long {t : FieldType} (h : tagOf t = 1) : t = .long := by unfold tagOf at h; split at h <;> first | rfl | omega
theorem tag_bool {t : FieldType} (h : tagOf t = 3) : t = .boolean := by unfold tagOf at h; split at h <;> first | rfl | omega
theorem tag_ref : ∀ a, a < 11 → ∀ k, k < NF a → tagOf (tyF a k) = 2 → refTy (tyF a k) = true := by decide +kernel
theorem fvO_ref {bs : Nat} {ex : Nat → Nat} {S : SS} {zI zL : ZM} {t : FieldType} {i : Nat} {k : Int} (h : refTy t = true) : fvO bs ex S zI zL t i k = va_rf ((S.2 i k).map (ad bs ex)) := by cases t <;> first | rfl | cases h
theorem narrow_ref {t : FieldType} {x : Nat} (h : refTy t = true) : narrow t (.ref x) = .ref x := by cases t <;> first | rfl | cases h
theorem fits_ref {t : FieldType} {x : Nat} (h : refTy t = true) : fits t (.ref x) = true := by cases t <;> first | rfl | cases h
theorem zput_row {z : ZM} {h i : Nat} {k x : Int} (hi : i ≠ h) : zput z h k x i = z i := by funext j; unfold zput; rw [if_neg (fun q => hi q.1)]
theorem zput_off {z : ZM} {h : Nat} {j k x : Int} (hj : j ≠ k) : zput z h k x h j = z h j := by unfold zput; rw [if_neg (fun q => hj q.2)]
theorem zput_at {z : ZM} {h : Nat} {k x : Int} : zput z h k x h k = x := by unfold zput; rw [if_pos ⟨rfl, rfl⟩]
theorem rput_row {z : Nat → Int → Option Nat} {h i : Nat} {k : Int} {x : Option Nat} (hi : i ≠ h) : rput z h k x i = z i := by funext j; unfold rput; rw [if_neg (fun q => hi q.1)]
theorem rput_off {z : Nat → Int → Option Nat} {h : Nat} {j k : Int} {x : Option Nat} (hj : j ≠ k) : rput z h k x h j = z h j := by unfold rput; rw [if_neg (fun q => hj q.2)]
theorem rput_at {z : Nat → Int → Option Nat} {h : Nat} {k : Int} {x : Option Nat} : rput z h k x h k = x := by unfold rput; rw [if_pos ⟨rfl, rfl⟩]
theorem upd_z {z : ZM} {h : Nat} {i : Int} (h0 : 0 ≤ i) (x : Int) : upd (fun j : Nat => i3 (z h (j : Int))) i.toNat (i3 x) = fun j : Nat => i3 (zput z h i x h (j : Int)) := by
  funext j
  unfold upd
  by_cases hj : j = i.toNat
  · rw [if_pos hj, show (j : Int) = i by omega, zput_at]
  · rw [if_neg hj, zput_off (by omega)]
theorem updL_z {z : ZM} {h : Nat} {i : Int} (h0 : 0 ≤ i) (x : Int) : vp_updL (fun j : Nat => i6 (z h (j : Int))) i.toNat (i6 x) = fun j : Nat => i6 (zput z h i x h (j : Int)) := by
  funext j
  unfold vp_updL
  by_cases hj : j = i.toNat
  · rw [if_pos hj, show (j : Int) = i by omega, zput_at]
  · rw [if_neg hj, zput_off (by omega)]
theorem nar_b {x : Int} (h : x = 0 ∨ x = 1) : vp_nar .boolean (i3 x) = i3 x := by rcases h with rfl | rfl <;> rfl
theorem up_r {bs : Nat} {ex : Nat → Nat} {z : Nat → Int → Option Nat} {h x : Nat} {i : Int} (h0 : 0 ≤ i) (hx : x < xbase) (j : Nat) : va_up (fun j : Nat => (z h (j : Int)).map (ad bs ex)) i.toNat (some (bs + x)) j = (rput z h i (some x) h (j : Int)).map (ad bs ex) := by
  unfold va_up
  by_cases hj : j = i.toNat
  · rw [if_pos hj, show (j : Int) = i by omega, rput_at, Option.map_some, ad_lt hx]
  · rw [if_neg hj, rput_off (by omega)]
theorem lsw_key (q : Nat) (pcs : List Nat) (d0 : Nat) (df x : Int) : ∀ (ps : List (Int × Int)) (ts : List Nat), ts.length = ps.length → (∀ (j : Nat) (t : Nat) (o : Int), ts[j]? = some t → (ps.map (fun e => e.2))[j]? = some o → (q : Int) + o = ((pcs.getD t 0 : Nat) : Int)) → (q : Int) + df = ((pcs.getD d0 0 : Nat) : Int) →
    (q : Int) + Op.lookupswitch.offset ps df x = ((pcs.getD (plk ps ts x d0) 0 : Nat) : Int)
  | [], ts, _, _, hd => by
    unfold Op.lookupswitch.offset
    rw [show plk [] ts x d0 = d0 by cases ts <;> rfl]; exact hd
  | (a, o) :: r, [], hl, _, _ => by simp at hl
  | (a, o) :: r, t :: ts, hl, hk, hd => by
    unfold Op.lookupswitch.offset plk
    by_cases h : x = a
    · rw [if_pos h.symm, if_pos h]; exact hk 0 t o rfl rfl
    · rw [if_neg (fun z => h z.symm), if_neg h]
      exact lsw_key q pcs d0 df x r ts (by simpa using hl) (fun j t o h1 h2 => hk (j + 1) t o (by simpa using h1) (by simpa using h2)) hd

abbrev SPO (l : Launch) (D : va_G) (bs : Nat) (ex : Nat → Nat) (f : Nat) (p : Program) (e : Env) (R : Room) (s : State) (m : MethodId) (args : Array Value) (below : List Frame) (meth : Method) (c : Code) (CC : Nat) (QQ : State → Prop) : PK := fun pc ls st S zI zL mc ms =>
  ∀ (H : Heap) (locs : List Loc) (cells slots : Nat) (jl : Array Slot) (cA : Nat → ClassId) (lv : List (Nat × Value)), va_P D vwCl (wlO bs ex cA S zI zL) H → bs + S.1.length = s.heap.size + cells → ARO cA S s → va_S (fun q => bs ≤ q) s.heap H locs → lv_has jl (mL f) lv → LRO bs ex ls lv → ls.length = mL f → cells + mc = CC → slots + ms ≤ R.slots →
    W p l e R s m args below meth c H locs cells slots QQ (F0 m ((pcss.getD f []).getD pc 0) jl (st.map (tv bs ex)))
def retI (f : Nat) (i : Instr) (r : Option PV) : Prop := match i, r with
  | .ireturn, some (.inl x) => mR f = some .int ∨ (mR f = some .boolean ∧ (x = 0 ∨ x = 1))
  | .lreturn, some (.inr (.inl _)) => mR f = some .long
  | .areturn, some (.inr (.inr (some _))) => ∃ t, mR f = some t ∧ refTy t = true
  | .return_, none => mR f = none
  | _, _ => False
theorem W_sz {p : Program} {l : Launch} {e : Env} {R : Room} {s : State} {m : MethodId} {args : Array Value} {below : List Frame} {meth : Method} {c : Code} {H : Heap} {locs : List Loc} {cells slots : Nat} {Q : State → Prop} {g : JFrame} (k : H.size ≤ s.heap.size + cells → W p l e R s m args below meth c H locs cells slots Q g) : W p l e R s m args below meth c H locs cells slots Q g := by
  intro T hT X
  have h := X.same.2.2.1
  exact k (by rw [← hT]; exact h) T hT X
theorem low_sz {D : va_G} {bs : Nat} {ex : Nat → Nat} {cA : Nat → ClassId} {S : SS} {zI zL : ZM} {H : Heap} (hP : va_P D vwCl (wlO bs ex cA S zI zL) H) (h0 : bs ≤ H.size) : bs + S.1.length ≤ H.size := by
  rcases Nat.eq_zero_or_pos S.1.length with h | h
  · rw [h]; exact h0
  · have hm : S.1[S.1.length - 1]? = some S.1[S.1.length - 1] := List.getElem?_eq_getElem (by omega)
    have := (hP _ _ (wlO_at (bs := bs) (ex := ex) (cA := cA) (zI := zI) (zL := zL) hm)).lt
    dsimp only at this
    omega
theorem push_P {D : va_G} {bs : Nat} {ex : Nat → Nat} {cA cA' : Nat → ClassId} {S S' : SS} {zI zL zI' zL' : ZM} {H H1 : Heap} {e : va_E} (hP : va_P D vwCl (wlO bs ex cA S zI zL) H) (o1 : ∀ q, q < H.size → H1[q]? = H[q]?) (hp : wlO bs ex cA S zI zL ++ [(bs + S.1.length, e)] = wlO bs ex cA' S' zI' zL') (he : va_at D vwCl (bs + S.1.length, e) H1) :
    va_P D vwCl (wlO bs ex cA' S' zI' zL') H1 := by
  rw [← hp]
  refine (hP.kept fun k q h => o1 _ (hP k q h).lt).app fun k q h => ?_
  have hz : k < 1 := (List.getElem?_eq_some_iff.mp h).1
  rw [show k = 0 by omega] at h
  cases h
  exact he
theorem zrow_other {z : ZM} {c i : Nat} {f : Int → Int} (h : i < c) : zrow z c f i = z i := by funext j; unfold zrow; rw [if_neg (Nat.ne_of_lt h)]
theorem rrow_other {z : Nat → Int → Option Nat} {c i : Nat} (h : i < c) : rrow z c i = z i := by funext j; unfold rrow; rw [if_neg (Nat.ne_of_lt h)]
theorem zrow_at {z : ZM} {c : Nat} {f : Int → Int} (k : Int) : zrow z c f c k = f k := by unfold zrow; rw [if_pos rfl]
theorem rrow_at {z : Nat → Int → Option Nat} {c : Nat} (k : Int) : rrow z c c k = none := by unfold rrow; rw [if_pos rfl]
theorem ARO_push {cA : Nat → ClassId} {S : SS} {s : State} {kd n : Nat} {r : Nat → Int → Option Nat} {c1 : ClassId} (h : ARO cA S s) (hn : 12 ≤ kd → ArrOfT s c1 (elT kd) ∧ va_RA s c1 (elT kd)) : ARO (fun i => if i = S.1.length then c1 else cA i) (S.1 ++ [(kd, n)], r) s := by
  intro i kd' n' hi hk
  dsimp only at hi ⊢
  rcases Nat.lt_trichotomy i S.1.length with q | q | q
  · rw [List.getElem?_append_left q] at hi
    rw [if_neg (by omega)]
    exact h i kd' n' hi hk
  · subst q
    rw [List.getElem?_append_right (Nat.le_refl _), Nat.sub_self] at hi
    cases hi
    rw [if_pos rfl]
    exact hn hk
  · rw [List.getElem?_eq_none (by rw [List.length_append]; exact q)] at hi
    cases hi
theorem va_S_grow {A : Nat → Prop} {H0 H H1 : Heap} {locs : List Loc} (h : va_S A H0 H locs) (hz : H.size ≤ H1.size) (o1 : ∀ q, q < H.size → H1[q]? = H[q]?) : va_S A H0 H1 locs :=
  ⟨Nat.le_trans h.1 hz, fun q h1 h2 => (o1 q (Nat.lt_of_lt_of_le h1 h.1)).trans (h.2.1 q h1 h2), h.2.2⟩
theorem big_good {w : Cond} (h : w ∈ BIG) : w ∈ BIG ∧ ((w.onTables && w.keeps) = true ∨ ∃ ty, w = .arrayClass ty) := ⟨h, good_of_word (List.mem_filter.mp h).2⟩
theorem arrW (i : Nat) (t : FieldType) (h : inT i (.arrayClass t) = true) : Cond.arrayClass t ∈ BIG := inT_big h
theorem LM_any : ∀ f, f < 214 → LMs.any (fun e => e.1 == f) = true := by decide +kernel
theorem LM_in {f : Nat} (hf : f < 214) : Cond.code (mY f) (mB f) (mL f) (mR f) ∈ BIG ∧ Cond.initialized (mY f).cls ∈ BIG ∧ plainFor (mY f) = true ∧ (mY f).cls ≠ "java/lang/invoke/MethodHandle" ∧ (mY f).cls ≠ "java/lang/invoke/VarHandle" := by
  obtain ⟨e, he, hq⟩ := List.any_eq_true.mp (LM_any f hf)
  rw [beq_iff_eq] at hq
  have h2 := List.all_eq_true.mp LMi e he
  have h3 := List.all_eq_true.mp LMn e he
  have h1 : lw_tbl[e.2.1]? = some (Cond.code (mY e.1) (mB e.1) (mL e.1) (mR e.1)) := List.map_inj_left.mp LMw e he
  rw [hq] at h1 h2 h3
  rw [Bool.and_eq_true, decide_eq_true_eq] at h3
  exact ⟨List.mem_filter.mpr ⟨List.mem_of_getElem? h1, rfl⟩, inT_big h2, h3.1, h3.2⟩
theorem LK_in {oi x so f n : Nat} (h : LKs.any (fun e => e.1 == oi && e.2.1 == x && e.2.2.1 == so && e.2.2.2.1 == f && e.2.2.2.2.1 == n) = true) : ∃ p1 p2 p3, ckK (oi, x, so, f, n, p1, p2, p3) = true ∧ (so < 5 → (parseMethodDescriptor (mY f).desc).map (fun d => d.parameters.length) = some n) := by
  obtain ⟨⟨e1, e2, e3, e4, e5, e6, e7, e8⟩, he, hq⟩ := List.any_eq_true.mp h
  simp only [Bool.and_eq_true, beq_iff_eq] at hq
  obtain ⟨⟨⟨⟨rfl, rfl⟩, rfl⟩, rfl⟩, rfl⟩ := hq
  refine ⟨e6, e7, e8, List.all_eq_true.mp LKs_ok _ he, fun hs => ?_⟩
  have h2 := List.all_eq_true.mp LKs_n _ he
  dsimp only at h2
  rw [Bool.or_eq_true, decide_eq_true_eq, decide_eq_true_eq] at h2
  rcases h2 with h2 | h2
  · omega
  · exact h2
theorem any_s {P : Nat × Nat × Nat × Nat × Nat × Nat × Nat × Nat → Bool} {l : List (Nat × Nat × Nat × Nat × Nat × Nat × Nat × Nat)} {b : Nat} (h : l.any (fun e => P e && e.2.2.2.2.1 + 1 == b) = true) : ∃ n, b = n + 1 ∧ l.any (fun e => P e && e.2.2.2.2.1 == n) = true := by
  obtain ⟨e, he, hq⟩ := List.any_eq_true.mp h
  rw [Bool.and_eq_true, beq_iff_eq] at hq
  exact ⟨e.2.2.2.2.1, hq.2.symm, List.any_eq_true.mpr ⟨e, he, by rw [Bool.and_eq_true, beq_iff_eq]; exact ⟨hq.1, rfl⟩⟩⟩
theorem LK_o {oi x so : Nat} (h : LKs.any (fun e => e.1 == oi && e.2.1 == x && e.2.2.1 == so) = true) : ∃ f n p1 p2 p3, ckK (oi, x, so, f, n, p1, p2, p3) = true := by
  obtain ⟨⟨e1, e2, e3, e4, e5, e6, e7, e8⟩, he, hq⟩ := List.any_eq_true.mp h
  simp only [Bool.and_eq_true, beq_iff_eq] at hq
  obtain ⟨⟨rfl, rfl⟩, rfl⟩ := hq
  exact ⟨e4, e5, e6, e7, e8, List.all_eq_true.mp LKs_ok _ he⟩
/-- behind a call -/
theorem callG {D : va_G} {bs : Nat} {ex : Nat → Nat} {p : Program} {l : Launch} {e : Env} {R : Room} {s : State} {m : MethodId} {args : Array Value} {below : List Frame} {meth : Method} {c : Code} {H : Heap} {locs : List Loc} {cells slots mc ms q : Nat} {QQ : State → Prop} {jl : Array Slot} {st0 rest : List Value} {Q : PQ} {a0 : Array Value}
    (hr : va_Run p l e R s m args below meth c H locs cells slots mc ms (F0 m q jl st0) rest (QcO D bs ex mc Q a0) (fun q => bs ≤ q)) (hS : va_S (fun q => bs ≤ q) s.heap H locs)
    (kk : ∀ (r : Option PV) (S' : SS) (zI' zL' : ZM) (H1 : Heap) (locs1 : List Loc) (cA' : Nat → ClassId), Q r S' zI' zL' → va_P D vwCl (wlO bs ex cA' S' zI' zL') H1 → bs + S'.1.length = H.size + mc → ARO cA' S' s → va_S (fun q => bs ≤ q) s.heap H1 locs1 →
      W p l e R s m args below meth c H1 locs1 (cells + mc) (slots + ms) QQ (F0 m (q + 3) jl ((r.map (tv bs ex)).toList ++ rest))) : W p l e R s m args below meth c H locs cells slots QQ (F0 m q jl st0) := by
  intro T hT X
  obtain ⟨v, st₀, t, T', L, h0, X', hL, e1, e2, ⟨⟨r, S', zI', zL', hv, hq, cA', hP', hz', hA'⟩, hzz, hF⟩, st⟩ := hr T hT X
  cases hv
  have ha : t.vm.Alike s.vm := by rw [← e2]; exact X'.warmed.alike.symm
  have hF1 : H.size ≤ t.heap.size := by rw [← h0]; exact hF.1
  have hF2 : ∀ q, q < H.size → ¬ bs ≤ q → t.heap[q]? = H[q]? := fun q h1 h2 => by rw [hF.2 q (by rw [h0]; exact h1) h2, h0]
  obtain ⟨t2, a1, b1⟩ := kk r S' zI' zL' T'.heap (locs ++ L) cA' hq (by rw [e1]; exact hP') (by rw [← hz', hzz, h0]) (hA'.moved ha)
    ⟨by rw [e1]; exact Nat.le_trans hS.1 hF1, fun q h1 h2 => by rw [e1, hF2 q (Nat.lt_of_lt_of_le h1 hS.1) h2]; exact hS.2.1 q h1 h2, fun q hq => by
      rcases List.mem_append.mp hq with h | h
      · exact hS.2.2 q h
      · exact hL q h⟩ T' rfl X'
  exact ⟨t2, st t2 a1, b1⟩
theorem PcO_of {D : va_G} {bs : Nat} {ex : Nat → Nat} {X : PX} {as : List PV} {S : SS} {zI zL : ZM} {cA : Nat → ClassId} {s U : State} {H : Heap} {locs : List Loc} (hKN : KNO D ex X bs s) (hbs : bs ≤ s.heap.size) (hP : va_P D vwCl (wlO bs ex cA S zI zL) H) (hz : H.size = bs + S.1.length) (hA : ARO cA S s) (hS : va_S (fun q => bs ≤ q) s.heap H locs) (hU : U.heap = H) (hW : s.WarmedH U.vm) :
    PcO D bs ex X as S zI zL (as.map (tv bs ex)).toArray U := by
  subst hU
  exact ⟨rfl, KNO_warm hW hS hKN, Nat.le_trans hbs hS.1, cA, hP, hz, hA.moved hW.alike⟩
def callLt (ins : PI) : Bool := match ins with
  | (.invokevirtual _, _, a, _, _) => decide (a < 214)
  | (.invokestatic _, _, a, _, _) => decide (a < 214)
  | (.invokespecial _, _, a, _, _) => decide (a < 214)
  | _ => true
theorem call_lt : (List.range 215).all (fun f => (MCode f).all callLt) = true := by decide +kernel
theorem call_lt_at (f : Nat) (hf : f < 215) (pc : Nat) (ins : PI) (h : (MCode f)[pc]? = some ins) : callLt ins = true :=
  List.all_eq_true.mp (List.all_eq_true.mp call_lt f (List.mem_range.mpr hf)) ins (List.mem_of_getElem? h)
theorem KNA2 {D : va_G} {s : State} {cA cB : ClassId} {ty : FieldType} (h : va_K D vwCl [] s) (h2 : ArrOfT s cA ty ∧ va_RA s cA ty) (h3 : ArrOfT s cB ty ∧ va_RA s cB ty) : va_K D vwCl [(cA, ty), (cB, ty)] s := ⟨h.1, fun k q hk => by
  match k, hk with
  | 0, hk => cases hk; exact h2
  | 1, hk => cases hk; exact h3
  | k + 2, hk => simp at hk⟩
theorem zrow_ne {z : ZM} {c i : Nat} {f : Int → Int} (h : i ≠ c) : zrow z c f i = z i := by funext j; unfold zrow; rw [if_neg h]
theorem cpy_i3 {z : ZM} {src dst : Nat} {sp dp n : Int} (a0 : 0 ≤ sp) (a1 : 0 ≤ dp) (a2 : 0 ≤ n) (j : Nat) : va_cpy (fun j : Nat => i3 (z src (j : Int))) (fun j : Nat => i3 (z dst (j : Int))) sp.toNat dp.toNat n.toNat j = i3 (zrow z dst (cpI (z src) (z dst) sp dp n) dst (j : Int)) := by
  rw [zrow_at]
  unfold va_cpy cpI
  by_cases h : dp.toNat ≤ j ∧ j < dp.toNat + n.toNat
  · rw [if_pos h, if_pos (by omega)]
    dsimp only
    rw [show ((sp.toNat + (j - dp.toNat) : Nat) : Int) = sp + ((j : Int) - dp) by omega]
  · rw [if_neg h, if_neg (by omega)]
theorem cpy_i6 {z : ZM} {src dst : Nat} {sp dp n : Int} (a0 : 0 ≤ sp) (a1 : 0 ≤ dp) (a2 : 0 ≤ n) (j : Nat) : va_cpy (fun j : Nat => i6 (z src (j : Int))) (fun j : Nat => i6 (z dst (j : Int))) sp.toNat dp.toNat n.toNat j = i6 (zrow z dst (cpI (z src) (z dst) sp dp n) dst (j : Int)) := by
  rw [zrow_at]
  unfold va_cpy cpI
  by_cases h : dp.toNat ≤ j ∧ j < dp.toNat + n.toNat
  · rw [if_pos h, if_pos (by omega)]
    dsimp only
    rw [show ((sp.toNat + (j - dp.toNat) : Nat) : Int) = sp + ((j : Int) - dp) by omega]
  · rw [if_neg h, if_neg (by omega)]
theorem tyF_in : ∀ a, a < 11 → ∀ k, k < NF a → (match tyF a k with | .int => true | .long => true | .boolean => true | .object _ => true | .array _ => true | _ => false) = true := by decide +kernel
set_option maxHeartbeats 40000000 in
set_option maxRecDepth 100000 in
theorem sound_step {l : Launch} {D : va_G} {bs : Nat} {ex : Nat → Nat} {X : PX} {d f : Nat}
    (IH : ∀ (f' : Nat) (as : List PV) (S : SS) (zI zL : ZM) (Q : PQ), f' < 214 → wpM X d f' as S zI zL Q → Met l (mY f') (wsO f') (rmO d f') (PcO D bs ex X as S zI zL) (QcO D bs ex (MC f') Q) (MC f') (MS f') (fun q => bs ≤ q))
    {p : Program} {e : Env} {R : Room} {s : State} {m : MethodId} {args : Array Value} {below : List Frame} {meth : Method} {c : Code} {CC : Nat} {QQ : State → Prop} {Q : PQ}
    (hf : f < 215) (hx : p.tables.exec = Jvm.exec) (hb : c.code = mB f) (hml : c.maxLocals = mL f) (hown : s.vm.findClass (rN (RC f)) = some m.cls) (hts : ∀ w ∈ BIG, w.before args s = true) (hin : (mY f).name = "<init>" → meth.name = "<init>") (hKN : KNO D ex X bs s) (hbs : bs ≤ s.heap.size)
    (hCC : CC ≤ R.cells) (hRf : d + 1 ≤ R.frames) (hRl : 60 * d + 60 ≤ R.locals)
    (hfin : ∀ (r : Option PV) (S : SS) (zI zL : ZM) (H : Heap) (locs : List Loc) (cells slots : Nat) (jl : Array Slot) (q : Nat) (i : Instr), Q r S zI zL → (∃ cA, va_P D vwCl (wlO bs ex cA S zI zL) H ∧ bs + S.1.length = s.heap.size + cells ∧ ARO cA S s) → va_S (fun q => bs ≤ q) s.heap H locs → cells = CC → slots ≤ R.slots → decode (mB f) q = .ok (i, 1) → retI f i r →
      W p l e R s m args below meth c H locs cells slots QQ (F0 m q jl (r.toList.map (tv bs ex))))
    (pc : Nat) (ls : List (Option PV)) (st : List PV) (S : SS) (zI zL : ZM) (mc ms : Nat) (hs : stepC swT MC MS RC NF X (wpM X d) Q (MCode f) (SPO l D bs ex f p e R s m args below meth c CC QQ) pc ls st S zI zL mc ms) :
    SPO l D bs ex f p e R s m args below meth c CC QQ pc ls st S zI zL mc ms := by
  unfold stepC at hs
  split at hs
  · exact hs.elim
  rename_i ins hC
  have hk : chkI (RC f) (mB f) (mR f) ((mY f).name == "<init>") (pcss.getD f []) ((pcss.getD f []).getD pc 0) ins = true := chkG_at _ _ (chk_all f hf) pc ins hC
  have hD : ∀ cA S zI zL, va_D (fun q => bs ≤ q) (wlO bs ex cA S zI zL) := fun cA S zI zL => wlO_D bs ex cA S zI zL
  have hA0 : ∀ q, s.heap.size ≤ q → (fun q => bs ≤ q) q := fun q h => Nat.le_trans hbs h
  have hmL : mL f ≤ 41 := mL_le f hf
  have hca := call_lt_at f hf pc ins hC
  clear hC
  unfold SPO at hs ⊢
  generalize hq : (pcss.getD f []).getD pc 0 = q at hk ⊢
  obtain ⟨i, nx, a, b, cc⟩ := ins
  cases i
  all_goals try exact False.elim hs
  all_goals dsimp only [stepP] at hs
  case iconst n =>
    dsimp only [chkI] at hk
    rw [Bool.and_eq_true, decide_eq_true_eq] at hk
    obtain ⟨hk, hv⟩ := hk
    obtain ⟨k1, k2⟩ := ck1 hk
    intro H locs cells slots jl cA lv hP hz hA hS hl hL hn hc1 hc2
    have hw := hs H locs cells slots jl cA lv hP hz hA hS hl hL hn hc1 hc2
    rw [k2] at hw
    exact lv_iconst hx hb k1 hv hw
  case bipush n =>
    dsimp only [chkI] at hk
    rw [Bool.and_eq_true, decide_eq_true_eq] at hk
    obtain ⟨hk, hv⟩ := hk
    obtain ⟨k1, k2⟩ := ck1 hk
    intro H locs cells slots jl cA lv hP hz hA hS hl hL hn hc1 hc2
    have hw := hs H locs cells slots jl cA lv hP hz hA hS hl hL hn hc1 hc2
    rw [k2] at hw
    exact lv_bipush hx hb k1 hv hw
  case sipush n =>
    dsimp only [chkI] at hk
    rw [Bool.and_eq_true, decide_eq_true_eq] at hk
    obtain ⟨hk, hv⟩ := hk
    obtain ⟨k1, k2⟩ := ck1 hk
    intro H locs cells slots jl cA lv hP hz hA hS hl hL hn hc1 hc2
    have hw := hs H locs cells slots jl cA lv hP hz hA hS hl hL hn hc1 hc2
    rw [k2] at hw
    exact lv_sipush hx hb k1 hv hw
  case lconst n =>
    dsimp only [chkI] at hk
    rw [Bool.and_eq_true, decide_eq_true_eq] at hk
    obtain ⟨hk, hv⟩ := hk
    obtain ⟨k1, k2⟩ := ck1 hk
    intro H locs cells slots jl cA lv hP hz hA hS hl hL hn hc1 hc2
    have hw := hs H locs cells slots jl cA lv hP hz hA hS hl hL hn hc1 hc2
    rw [k2] at hw
    exact lv_lconst hx hb k1 hv hw
  case ldc x =>
    dsimp only [chkI] at hk
    rw [Bool.and_eq_true] at hk
    obtain ⟨hk, hv⟩ := hk
    obtain ⟨k1, k2⟩ := ck1 hk
    intro H locs cells slots jl cA lv hP hz hA hS hl hL hn hc1 hc2
    have hw := hs H locs cells slots jl cA lv hP hz hA hS hl hL hn hc1 hc2
    rw [k2] at hw
    exact lv_ldc hx hb hown (hts _ (LC_in hv)) k1 hw
  case ldc_w x =>
    dsimp only [chkI] at hk
    rw [Bool.and_eq_true] at hk
    obtain ⟨hk, hv⟩ := hk
    obtain ⟨k1, k2⟩ := ck1 hk
    intro H locs cells slots jl cA lv hP hz hA hS hl hL hn hc1 hc2
    have hw := hs H locs cells slots jl cA lv hP hz hA hS hl hL hn hc1 hc2
    rw [k2] at hw
    exact lv_ldcw hx hb hown (hts _ (LC_in hv)) k1 hw
  case ldc2_w x =>
    dsimp only [chkI] at hk
    rw [Bool.and_eq_true] at hk
    obtain ⟨hk, hv⟩ := hk
    obtain ⟨k1, k2⟩ := ck1 hk
    intro H locs cells slots jl cA lv hP hz hA hS hl hL hn hc1 hc2
    have hw := hs H locs cells slots jl cA lv hP hz hA hS hl hL hn hc1 hc2
    rw [k2] at hw
    exact lv_ldc2 hx hb hown (hts _ (LL_in hv)) k1 hw
  case iload i =>
    replace hs := ldI_el hs
    obtain ⟨x, hl0, hs⟩ := hs
    obtain ⟨k1, k2⟩ := ck1 hk
    intro H locs cells slots jl cA lv hP hz hA hS hl hL hn hc1 hc2
    have hw := hs H locs cells slots jl cA lv hP hz hA hS hl hL hn hc1 hc2
    rw [k2] at hw
    exact lv_iload hx hb k1 (hl.2.2 _ (hL _ _ hl0)) hw
  case iload_n i =>
    replace hs := ldI_el hs
    obtain ⟨x, hl0, hs⟩ := hs
    obtain ⟨k1, k2⟩ := ck1 hk
    intro H locs cells slots jl cA lv hP hz hA hS hl hL hn hc1 hc2
    have hw := hs H locs cells slots jl cA lv hP hz hA hS hl hL hn hc1 hc2
    rw [k2] at hw
    exact lv_iload_n hx hb k1 rfl (hl.2.2 _ (hL _ _ hl0)) hw
  case lload i =>
    replace hs := ldL_el hs
    obtain ⟨x, hl0, hs⟩ := hs
    obtain ⟨k1, k2⟩ := ck1 hk
    intro H locs cells slots jl cA lv hP hz hA hS hl hL hn hc1 hc2
    have hw := hs H locs cells slots jl cA lv hP hz hA hS hl hL hn hc1 hc2
    rw [k2] at hw
    exact lv_lload hx hb k1 (hl.2.2 _ (hL _ _ hl0)) hw
  case lload_n i =>
    replace hs := ldL_el hs
    obtain ⟨x, hl0, hs⟩ := hs
    obtain ⟨k1, k2⟩ := ck1 hk
    intro H locs cells slots jl cA lv hP hz hA hS hl hL hn hc1 hc2
    have hw := hs H locs cells slots jl cA lv hP hz hA hS hl hL hn hc1 hc2
    rw [k2] at hw
    exact lv_lload_n hx hb k1 rfl (hl.2.2 _ (hL _ _ hl0)) hw
  case aload i =>
    replace hs := ldR_el hs
    obtain ⟨x, hl0, hs⟩ := hs
    obtain ⟨k1, k2⟩ := ck1 hk
    intro H locs cells slots jl cA lv hP hz hA hS hl hL hn hc1 hc2
    have hw := hs H locs cells slots jl cA lv hP hz hA hS hl hL hn hc1 hc2
    rw [k2] at hw
    exact lv_aload hx hb k1 (hl.2.2 _ (hL _ _ hl0)) hw
  case aload_n i =>
    replace hs := ldR_el hs
    obtain ⟨x, hl0, hs⟩ := hs
    obtain ⟨k1, k2⟩ := ck1 hk
    intro H locs cells slots jl cA lv hP hz hA hS hl hL hn hc1 hc2
    have hw := hs H locs cells slots jl cA lv hP hz hA hS hl hL hn hc1 hc2
    rw [k2] at hw
    exact lv_aload_n hx hb k1 rfl (hl.2.2 _ (hL _ _ hl0)) hw
  case istore i =>
    replace hs := popI_el hs
    obtain ⟨x, r, rfl, hi, hs⟩ := hs
    obtain ⟨k1, k2⟩ := ck1 hk
    intro H locs cells slots jl cA lv hP hz hA hS hl hL hn hc1 hc2
    refine lv_istore hx hb k1 hl (by rw [← hn]; exact hi) rfl fun ls' hl' => ?_
    have hw := hs H locs cells slots ls' cA _ hP hz hA hS hl' (LRO_st1 hL _ _) (by rw [st1_len]; exact hn) hc1 hc2
    rw [k2] at hw
    exact hw
  case istore_n i =>
    replace hs := popI_el hs
    obtain ⟨x, r, rfl, hi, hs⟩ := hs
    obtain ⟨k1, k2⟩ := ck1 hk
    intro H locs cells slots jl cA lv hP hz hA hS hl hL hn hc1 hc2
    refine lv_istore_n hx hb k1 rfl hl (by rw [← hn]; exact hi) rfl fun ls' hl' => ?_
    have hw := hs H locs cells slots ls' cA _ hP hz hA hS hl' (LRO_st1 hL _ _) (by rw [st1_len]; exact hn) hc1 hc2
    rw [k2] at hw
    exact hw
  case lstore i =>
    replace hs := popL_el hs
    obtain ⟨x, r, rfl, hi, hs⟩ := hs
    obtain ⟨k1, k2⟩ := ck1 hk
    intro H locs cells slots jl cA lv hP hz hA hS hl hL hn hc1 hc2
    refine lv_lstore hx hb k1 hl (by rw [← hn]; exact hi) rfl fun ls' hl' => ?_
    have hw := hs H locs cells slots ls' cA _ hP hz hA hS hl' (LRO_st2 hL _ _) (by rw [st2_len]; exact hn) hc1 hc2
    rw [k2] at hw
    exact hw
  case lstore_n i =>
    replace hs := popL_el hs
    obtain ⟨x, r, rfl, hi, hs⟩ := hs
    obtain ⟨k1, k2⟩ := ck1 hk
    intro H locs cells slots jl cA lv hP hz hA hS hl hL hn hc1 hc2
    refine lv_lstore_n hx hb k1 rfl hl (by rw [← hn]; exact hi) rfl fun ls' hl' => ?_
    have hw := hs H locs cells slots ls' cA _ hP hz hA hS hl' (LRO_st2 hL _ _) (by rw [st2_len]; exact hn) hc1 hc2
    rw [k2] at hw
    exact hw
  case astore i =>
    replace hs := popR_el hs
    obtain ⟨x, r, rfl, hi, hs⟩ := hs
    obtain ⟨k1, k2⟩ := ck1 hk
    intro H locs cells slots jl cA lv hP hz hA hS hl hL hn hc1 hc2
    refine lv_astore hx hb k1 hl (by rw [← hn]; exact hi) rfl fun ls' hl' => ?_
    have hw := hs H locs cells slots ls' cA _ hP hz hA hS hl' (LRO_st1 hL _ _) (by rw [st1_len]; exact hn) hc1 hc2
    rw [k2] at hw
    exact hw
  case astore_n i =>
    replace hs := popR_el hs
    obtain ⟨x, r, rfl, hi, hs⟩ := hs
    obtain ⟨k1, k2⟩ := ck1 hk
    intro H locs cells slots jl cA lv hP hz hA hS hl hL hn hc1 hc2
    refine lv_astore_n hx hb k1 rfl hl (by rw [← hn]; exact hi) rfl fun ls' hl' => ?_
    have hw := hs H locs cells slots ls' cA _ hP hz hA hS hl' (LRO_st1 hL _ _) (by rw [st1_len]; exact hn) hc1 hc2
    rw [k2] at hw
    exact hw
  case iinc i n =>
    replace hs := ldI_el hs
    obtain ⟨x, hl0, hi, hs⟩ := hs
    dsimp only [chkI] at hk
    rw [Bool.and_eq_true, beq_iff_eq] at hk
    obtain ⟨hk, rfl⟩ := hk
    obtain ⟨k1, k2⟩ := ck1 hk
    intro H locs cells slots jl cA lv hP hz hA hS hl hL hn hc1 hc2
    obtain ⟨k0, hk0⟩ := List.getElem?_of_mem (hL _ _ hl0)
    refine lv_iinc (v := i3 (x + n)) hx hb k1 hl hk0 (by rw [i3_add]; rfl) (by rw [← hn]; exact hi) rfl fun ls' hl' => ?_
    have hw := hs H locs cells slots ls' cA _ hP hz hA hS hl' (LRO_st1 hL _ _) (by rw [st1_len]; exact hn) hc1 hc2
    rw [k2] at hw
    exact hw
  case dup =>
    replace hs := popV_el hs
    obtain ⟨v, r, rfl, hv, hs⟩ := hs
    obtain ⟨k1, k2⟩ := ck1 hk
    intro H locs cells slots jl cA lv hP hz hA hS hl hL hn hc1 hc2
    have hw := hs H locs cells slots jl cA lv hP hz hA hS hl hL hn hc1 hc2
    rw [k2] at hw
    exact lv_dup hx hb k1 (by rw [tv_cat]; exact hv) hw
  case pop =>
    replace hs := popV_el hs
    obtain ⟨v, r, rfl, hv, hs⟩ := hs
    obtain ⟨k1, k2⟩ := ck1 hk
    intro H locs cells slots jl cA lv hP hz hA hS hl hL hn hc1 hc2
    have hw := hs H locs cells slots jl cA lv hP hz hA hS hl hL hn hc1 hc2
    rw [k2] at hw
    exact lv_pop hx hb k1 (by rw [tv_cat]; exact hv) hw
  case dup2 =>
    replace hs := popV_el hs
    obtain ⟨v, r, rfl, hv, hs⟩ := hs
    replace hs := popV_el hs
    obtain ⟨u, r, rfl, hu, hs⟩ := hs
    obtain ⟨k1, k2⟩ := ck1 hk
    intro H locs cells slots jl cA lv hP hz hA hS hl hL hn hc1 hc2
    have hw := hs H locs cells slots jl cA lv hP hz hA hS hl hL hn hc1 hc2
    rw [k2] at hw
    exact lv_dup2_11 hx hb k1 (by rw [tv_cat]; exact hv) (by rw [tv_cat]; exact hu) hw
  case iadd =>
    replace hs := popI_el hs
    obtain ⟨y, r, rfl, hs⟩ := hs
    replace hs := popI_el hs
    obtain ⟨x, r, rfl, hs⟩ := hs
    obtain ⟨k1, k2⟩ := ck1 hk
    intro H locs cells slots jl cA lv hP hz hA hS hl hL hn hc1 hc2
    have hw := hs H locs cells slots jl cA lv hP hz hA hS hl hL hn hc1 hc2
    rw [k2] at hw
    refine lv_iadd hx hb k1 ?_
    simp only [List.map_cons, tv, i3_add] at hw
    exact hw
  case isub =>
    replace hs := popI_el hs
    obtain ⟨y, r, rfl, hs⟩ := hs
    replace hs := popI_el hs
    obtain ⟨x, r, rfl, hs⟩ := hs
    obtain ⟨k1, k2⟩ := ck1 hk
    intro H locs cells slots jl cA lv hP hz hA hS hl hL hn hc1 hc2
    have hw := hs H locs cells slots jl cA lv hP hz hA hS hl hL hn hc1 hc2
    rw [k2] at hw
    refine lv_isub hx hb k1 ?_
    simp only [List.map_cons, tv, i3_sub] at hw
    exact hw
  case imul =>
    replace hs := popI_el hs
    obtain ⟨y, r, rfl, hs⟩ := hs
    replace hs := popI_el hs
    obtain ⟨x, r, rfl, hs⟩ := hs
    obtain ⟨k1, k2⟩ := ck1 hk
    intro H locs cells slots jl cA lv hP hz hA hS hl hL hn hc1 hc2
    have hw := hs H locs cells slots jl cA lv hP hz hA hS hl hL hn hc1 hc2
    rw [k2] at hw
    refine lv_imul hx hb k1 ?_
    simp only [List.map_cons, tv, i3_mul] at hw
    exact hw
  case ladd =>
    replace hs := popL_el hs
    obtain ⟨y, r, rfl, hs⟩ := hs
    replace hs := popL_el hs
    obtain ⟨x, r, rfl, hs⟩ := hs
    obtain ⟨k1, k2⟩ := ck1 hk
    intro H locs cells slots jl cA lv hP hz hA hS hl hL hn hc1 hc2
    have hw := hs H locs cells slots jl cA lv hP hz hA hS hl hL hn hc1 hc2
    rw [k2] at hw
    refine lv_ladd hx hb k1 ?_
    simp only [List.map_cons, tv, i6_add] at hw
    exact hw
  case lsub =>
    replace hs := popL_el hs
    obtain ⟨y, r, rfl, hs⟩ := hs
    replace hs := popL_el hs
    obtain ⟨x, r, rfl, hs⟩ := hs
    obtain ⟨k1, k2⟩ := ck1 hk
    intro H locs cells slots jl cA lv hP hz hA hS hl hL hn hc1 hc2
    have hw := hs H locs cells slots jl cA lv hP hz hA hS hl hL hn hc1 hc2
    rw [k2] at hw
    refine lv_lsub hx hb k1 ?_
    simp only [List.map_cons, tv, i6_sub] at hw
    exact hw
  case lmul =>
    replace hs := popL_el hs
    obtain ⟨y, r, rfl, hs⟩ := hs
    replace hs := popL_el hs
    obtain ⟨x, r, rfl, hs⟩ := hs
    obtain ⟨k1, k2⟩ := ck1 hk
    intro H locs cells slots jl cA lv hP hz hA hS hl hL hn hc1 hc2
    have hw := hs H locs cells slots jl cA lv hP hz hA hS hl hL hn hc1 hc2
    rw [k2] at hw
    refine lv_lmul hx hb k1 ?_
    simp only [List.map_cons, tv, i6_mul] at hw
    exact hw
  case ixor =>
    replace hs := popI_el hs
    obtain ⟨y, r, rfl, hs⟩ := hs
    replace hs := popI_el hs
    obtain ⟨x, r, rfl, hs⟩ := hs
    obtain ⟨k1, k2⟩ := ck1 hk
    intro H locs cells slots jl cA lv hP hz hA hS hl hL hn hc1 hc2
    have hw := hs H locs cells slots jl cA lv hP hz hA hS hl hL hn hc1 hc2
    rw [k2] at hw
    refine lv_ixor hx hb k1 ?_
    simp only [List.map_cons, tv, i3_toI] at hw
    exact hw
  case iand =>
    replace hs := popI_el hs
    obtain ⟨y, r, rfl, hs⟩ := hs
    replace hs := popI_el hs
    obtain ⟨x, r, rfl, hs⟩ := hs
    obtain ⟨k1, k2⟩ := ck1 hk
    intro H locs cells slots jl cA lv hP hz hA hS hl hL hn hc1 hc2
    have hw := hs H locs cells slots jl cA lv hP hz hA hS hl hL hn hc1 hc2
    rw [k2] at hw
    refine lv_iand hx hb k1 ?_
    simp only [List.map_cons, tv, i3_toI] at hw
    exact hw
  case lor =>
    replace hs := popL_el hs
    obtain ⟨y, r, rfl, hs⟩ := hs
    replace hs := popL_el hs
    obtain ⟨x, r, rfl, hs⟩ := hs
    obtain ⟨k1, k2⟩ := ck1 hk
    intro H locs cells slots jl cA lv hP hz hA hS hl hL hn hc1 hc2
    have hw := hs H locs cells slots jl cA lv hP hz hA hS hl hL hn hc1 hc2
    rw [k2] at hw
    refine lv_lor hx hb k1 ?_
    simp only [List.map_cons, tv, i6_toI] at hw
    exact hw
  case land =>
    replace hs := popL_el hs
    obtain ⟨y, r, rfl, hs⟩ := hs
    replace hs := popL_el hs
    obtain ⟨x, r, rfl, hs⟩ := hs
    obtain ⟨k1, k2⟩ := ck1 hk
    intro H locs cells slots jl cA lv hP hz hA hS hl hL hn hc1 hc2
    have hw := hs H locs cells slots jl cA lv hP hz hA hS hl hL hn hc1 hc2
    rw [k2] at hw
    refine lv_land hx hb k1 ?_
    simp only [List.map_cons, tv, i6_toI] at hw
    exact hw
  case lshl =>
    replace hs := popI_el hs
    obtain ⟨y, r, rfl, hs⟩ := hs
    replace hs := popL_el hs
    obtain ⟨x, r, rfl, hs⟩ := hs
    obtain ⟨k1, k2⟩ := ck1 hk
    intro H locs cells slots jl cA lv hP hz hA hS hl hL hn hc1 hc2
    have hw := hs H locs cells slots jl cA lv hP hz hA hS hl hL hn hc1 hc2
    rw [k2] at hw
    refine lv_lshl hx hb k1 rfl ?_
    simp only [List.map_cons, tv, i6_toI] at hw
    exact hw
  case idiv =>
    replace hs := popI_el hs
    obtain ⟨y, r, rfl, hs⟩ := hs
    replace hs := popI_el hs
    obtain ⟨x, r, rfl, ⟨g1, g2, g3⟩, hs⟩ := hs
    obtain ⟨k1, k2⟩ := ck1 hk
    intro H locs cells slots jl cA lv hP hz hA hS hl hL hn hc1 hc2
    have hw := hs H locs cells slots jl cA lv hP hz hA hS hl hL hn hc1 hc2
    rw [k2] at hw
    refine lv_idiv hx hb k1 (i3_ne0 g2 g3) ?_
    simp only [List.map_cons, tv, i3_div g1 g2] at hw
    exact hw
  case irem =>
    replace hs := popI_el hs
    obtain ⟨y, r, rfl, hs⟩ := hs
    replace hs := popI_el hs
    obtain ⟨x, r, rfl, ⟨g1, g2, g3⟩, hs⟩ := hs
    obtain ⟨k1, k2⟩ := ck1 hk
    intro H locs cells slots jl cA lv hP hz hA hS hl hL hn hc1 hc2
    have hw := hs H locs cells slots jl cA lv hP hz hA hS hl hL hn hc1 hc2
    rw [k2] at hw
    refine lv_irem hx hb k1 (i3_ne0 g2 g3) ?_
    simp only [List.map_cons, tv, i3_mod g1 g2] at hw
    exact hw
  case ldiv =>
    replace hs := popL_el hs
    obtain ⟨y, r, rfl, hs⟩ := hs
    replace hs := popL_el hs
    obtain ⟨x, r, rfl, ⟨g1, g2, g3⟩, hs⟩ := hs
    obtain ⟨k1, k2⟩ := ck1 hk
    intro H locs cells slots jl cA lv hP hz hA hS hl hL hn hc1 hc2
    have hw := hs H locs cells slots jl cA lv hP hz hA hS hl hL hn hc1 hc2
    rw [k2] at hw
    refine lv_ldiv hx hb k1 (i6_ne0 g2 g3) ?_
    simp only [List.map_cons, tv, i6_div g1 g2] at hw
    exact hw
  case lrem =>
    replace hs := popL_el hs
    obtain ⟨y, r, rfl, hs⟩ := hs
    replace hs := popL_el hs
    obtain ⟨x, r, rfl, ⟨g1, g2, g3⟩, hs⟩ := hs
    obtain ⟨k1, k2⟩ := ck1 hk
    intro H locs cells slots jl cA lv hP hz hA hS hl hL hn hc1 hc2
    have hw := hs H locs cells slots jl cA lv hP hz hA hS hl hL hn hc1 hc2
    rw [k2] at hw
    refine lv_lrem hx hb k1 (i6_ne0 g2 g3) ?_
    simp only [List.map_cons, tv, i6_mod g1 g2] at hw
    exact hw
  case ineg =>
    replace hs := popI_el hs
    obtain ⟨x, r, rfl, hs⟩ := hs
    obtain ⟨k1, k2⟩ := ck1 hk
    intro H locs cells slots jl cA lv hP hz hA hS hl hL hn hc1 hc2
    have hw := hs H locs cells slots jl cA lv hP hz hA hS hl hL hn hc1 hc2
    rw [k2] at hw
    refine lv_ineg hx hb k1 ?_
    simp only [List.map_cons, tv, i3_neg] at hw
    exact hw
  case lneg =>
    replace hs := popL_el hs
    obtain ⟨x, r, rfl, hs⟩ := hs
    obtain ⟨k1, k2⟩ := ck1 hk
    intro H locs cells slots jl cA lv hP hz hA hS hl hL hn hc1 hc2
    have hw := hs H locs cells slots jl cA lv hP hz hA hS hl hL hn hc1 hc2
    rw [k2] at hw
    refine lv_lneg hx hb k1 ?_
    simp only [List.map_cons, tv, i6_neg] at hw
    exact hw
  case lcmp =>
    replace hs := popL_el hs
    obtain ⟨y, r, rfl, hs⟩ := hs
    replace hs := popL_el hs
    obtain ⟨x, r, rfl, hs⟩ := hs
    obtain ⟨k1, k2⟩ := ck1 hk
    intro H locs cells slots jl cA lv hP hz hA hS hl hL hn hc1 hc2
    have hw := hs H locs cells slots jl cA lv hP hz hA hS hl hL hn hc1 hc2
    rw [k2] at hw
    refine W.lcmp hx hb k1 ?_
    simp only [List.map_cons, tv, cmpL_lg] at hw
    exact hw
  case i2l =>
    replace hs := popI_el hs
    obtain ⟨x, r, rfl, g, hs⟩ := hs
    obtain ⟨k1, k2⟩ := ck1 hk
    intro H locs cells slots jl cA lv hP hz hA hS hl hL hn hc1 hc2
    have hw := hs H locs cells slots jl cA lv hP hz hA hS hl hL hn hc1 hc2
    rw [k2] at hw
    exact lv_i2l hx hb k1 (i6_of3 g) hw
  case l2i =>
    replace hs := popL_el hs
    obtain ⟨x, r, rfl, hs⟩ := hs
    obtain ⟨k1, k2⟩ := ck1 hk
    intro H locs cells slots jl cA lv hP hz hA hS hl hL hn hc1 hc2
    have hw := hs H locs cells slots jl cA lv hP hz hA hS hl hL hn hc1 hc2
    rw [k2] at hw
    exact lv_l2i hx hb k1 (i3_of6 x) hw
  case i2b =>
    replace hs := popI_el hs
    obtain ⟨x, r, rfl, hs⟩ := hs
    obtain ⟨k1, k2⟩ := ck1 hk
    intro H locs cells slots jl cA lv hP hz hA hS hl hL hn hc1 hc2
    have hw := hs H locs cells slots jl cA lv hP hz hA hS hl hL hn hc1 hc2
    rw [k2] at hw
    exact lv_i2b hx hb k1 (i3_toI _).symm hw
  case goto n =>
    dsimp only [chkI, dk] at hk
    simp only [Bool.and_eq_true, decide_eq_true_eq] at hk
    intro H locs cells slots jl cA lv hP hz hA hS hl hL hn hc1 hc2
    have hw := hs H locs cells slots jl cA lv hP hz hA hS hl hL hn hc1 hc2
    exact lv_goto hx hb hk.1 hk.2 hw
  case ifCond g n =>
    replace hs := popI_el hs
    obtain ⟨x, r, rfl, hs⟩ := hs
    dsimp only [chkI] at hk
    rw [Bool.and_eq_true, decide_eq_true_eq] at hk
    obtain ⟨hk, hj⟩ := hk
    obtain ⟨k1, k2⟩ := ck1 hk
    obtain ⟨ht, hf0⟩ := hs
    intro H locs cells slots jl cA lv hP hz hA hS hl hL hn hc1 hc2
    have hw2 := fun z => hf0 z H locs cells slots jl cA lv hP hz hA hS hl hL hn hc1 hc2
    rw [k2] at hw2
    have hw1 := fun z => ht z H locs cells slots jl cA lv hP hz hA hS hl hL hn hc1 hc2
    cases g
    case eq => exact lv_if_eq hx hb k1 hj (fun z => hw1 z) (fun z => hw2 z)
    case ne => exact lv_if_ne hx hb k1 hj (fun z => hw1 z) (fun z => hw2 (fun h => h z))
    case lt => exact lv_if_lt hx hb k1 hj (fun z => hw1 z) (fun z => hw2 z)
    case ge => exact lv_if_ge hx hb k1 hj (fun z => hw1 z) (fun z => hw2 z)
    case gt => exact lv_if_gt hx hb k1 hj (fun z => hw1 z) (fun z => hw2 z)
    case le => exact lv_if_le hx hb k1 hj (fun z => hw1 z) (fun z => hw2 z)
  case if_icmp g n =>
    replace hs := popI_el hs
    obtain ⟨y, r, rfl, hs⟩ := hs
    replace hs := popI_el hs
    obtain ⟨x, r, rfl, hs⟩ := hs
    dsimp only [chkI] at hk
    rw [Bool.and_eq_true, decide_eq_true_eq] at hk
    obtain ⟨hk, hj⟩ := hk
    obtain ⟨k1, k2⟩ := ck1 hk
    obtain ⟨ht, hf0⟩ := hs
    intro H locs cells slots jl cA lv hP hz hA hS hl hL hn hc1 hc2
    have hw2 := fun z => hf0 z H locs cells slots jl cA lv hP hz hA hS hl hL hn hc1 hc2
    rw [k2] at hw2
    have hw1 := fun z => ht z H locs cells slots jl cA lv hP hz hA hS hl hL hn hc1 hc2
    cases g
    case eq => exact lv_icmp_eq hx hb k1 hj (fun z => hw1 z) (fun z => hw2 z)
    case ne => exact lv_icmp_ne hx hb k1 hj (fun z => hw1 z) (fun z => hw2 (fun h => h z))
    case lt => exact lv_icmp_lt hx hb k1 hj (fun z => hw1 z) (fun z => hw2 z)
    case ge => exact lv_icmp_ge hx hb k1 hj (fun z => hw1 z) (fun z => hw2 z)
    case gt => exact lv_icmp_gt hx hb k1 hj (fun z => hw1 z) (fun z => hw2 z)
    case le => exact lv_icmp_le hx hb k1 hj (fun z => hw1 z) (fun z => hw2 z)
  case tableswitch df lo hi os =>
    replace hs := popI_el hs
    obtain ⟨x, r, rfl, g, t, ht, hs⟩ := hs
    dsimp only [chkI] at hk
    simp only [Bool.and_eq_true, decide_eq_true_eq] at hk
    obtain ⟨⟨⟨hk1, hlo⟩, hsz⟩, hk2⟩ := hk
    intro H locs cells slots jl cA lv hP hz hA hS hl hL hn hc1 hc2
    have hw := hs H locs cells slots jl cA lv hP hz hA hS hl hL hn hc1 hc2
    have hdec : ∃ n, decode (mB f) q = .ok (.tableswitch df lo hi os, n) := by
      split at hk1
      · rename_i j n hj; simp only [decide_eq_true_eq] at hk1; exact ⟨n, by rw [hj, hk1]⟩
      · cases hk1
    obtain ⟨n, hdec⟩ := hdec
    unfold psw at ht
    split at hk2
    case h_2 => cases hk2
    rename_i ts hts0
    rw [hts0] at ht
    dsimp only at ht
    unfold swOK at hk2
    rw [Bool.and_eq_true, beq_iff_eq] at hk2
    have key : ∀ (j : Nat) (t : Nat) (o : Int), ts[j]? = some t → (df :: os.toList)[j]? = some o → (q : Int) + o = (((pcss.getD f []).getD t 0 : Nat) : Int) := fun j t o h1 h2 => by
      have := List.all_eq_true.mp hk2.2 (t, o) (List.mem_iff_getElem?.mpr ⟨j, by rw [List.getElem?_zip_eq_some]; exact ⟨h1, h2⟩⟩)
      simpa using this
    split at ht
    · rename_i hout
      exact lv_tableOut hx hb hdec (by rw [i3_toInt g]; exact hout) (key 0 t df ht rfl) hw
    · rename_i hout
      have hlen : (x - lo).toNat < os.size := by omega
      have ho : os[(x - lo).toNat]? = some os[(x - lo).toNat] := Array.getElem?_eq_getElem hlen
      refine lv_tableIn hx hb hdec (by rw [i3_toInt g]; omega) (by rw [i3_toInt g]; omega) (off := os[(x - lo).toNat]) (by rw [i3_toInt g]; exact ho) (key _ t _ ht ?_) hw
      rw [List.getElem?_cons_succ, Array.getElem?_toList]; exact ho
  case lookupswitch df ps =>
    replace hs := popI_el hs
    obtain ⟨x, r, rfl, g, t, ht, hs⟩ := hs
    dsimp only [chkI] at hk
    simp only [Bool.and_eq_true] at hk
    obtain ⟨⟨hk1, hasc⟩, hk2⟩ := hk
    intro H locs cells slots jl cA lv hP hz hA hS hl hL hn hc1 hc2
    have hw := hs H locs cells slots jl cA lv hP hz hA hS hl hL hn hc1 hc2
    have hdec : ∃ n, decode (mB f) q = .ok (.lookupswitch df ps, n) := by
      split at hk1
      · rename_i j n hj; simp only [decide_eq_true_eq] at hk1; exact ⟨n, by rw [hj, hk1]⟩
      · cases hk1
    obtain ⟨n, hdec⟩ := hdec
    unfold plook at ht
    split at hk2
    case h_2 => cases hk2
    rename_i ts hts0
    rw [hts0] at ht
    unfold swOK at hk2
    rw [Bool.and_eq_true, beq_iff_eq] at hk2
    cases ts with
    | nil => cases ht
    | cons d0 ts =>
      dsimp only at ht
      cases ht
      have key : ∀ (j : Nat) (t : Nat) (o : Int), (d0 :: ts)[j]? = some t → (df :: ps.toList.map (fun e => e.2))[j]? = some o → (q : Int) + o = (((pcss.getD f []).getD t 0 : Nat) : Int) := fun j t o h1 h2 => by
        have := List.all_eq_true.mp hk2.2 (t, o) (List.mem_iff_getElem?.mpr ⟨j, by rw [List.getElem?_zip_eq_some]; exact ⟨h1, h2⟩⟩)
        simpa using this
      refine lv_lookup hx hb hdec hasc (by rw [i3_toInt g]) (lsw_key _ _ _ _ _ _ _ (by simpa using hk2.1) (fun j t o h1 h2 => key (j + 1) t o h1 h2) (key 0 _ _ rfl rfl)) hw
  case ireturn =>
    replace hs := popI_el hs
    obtain ⟨x, r, rfl, rfl, rfl, g, hq0⟩ := hs
    dsimp only [chkI, dk] at hk
    rw [Bool.and_eq_true, decide_eq_true_eq] at hk
    intro H locs cells slots jl cA lv hP hz hA hS hl hL hn hc1 hc2
    exact hfin (some (pI x)) S zI zL H locs cells slots jl q _ hq0 ⟨cA, hP, hz, hA⟩ hS (by omega) (by omega) hk.1 (by
      have h2 := hk.2
      split at h2
      · rename_i ha; rw [decide_eq_true_eq] at h2; exact Or.inr ⟨h2, g ha⟩
      · rw [decide_eq_true_eq] at h2; exact Or.inl h2.2)
  case lreturn =>
    replace hs := popL_el hs
    obtain ⟨x, r, rfl, rfl, rfl, hq0⟩ := hs
    dsimp only [chkI, dk] at hk
    simp only [Bool.and_eq_true, decide_eq_true_eq] at hk
    intro H locs cells slots jl cA lv hP hz hA hS hl hL hn hc1 hc2
    exact hfin (some (pL x)) S zI zL H locs cells slots jl q _ hq0 ⟨cA, hP, hz, hA⟩ hS (by omega) (by omega) hk.1 hk.2
  case areturn =>
    replace hs := popR_el hs
    obtain ⟨x, r, rfl, rfl, rfl, hq0⟩ := hs
    dsimp only [chkI, dk] at hk
    rw [Bool.and_eq_true, decide_eq_true_eq] at hk
    intro H locs cells slots jl cA lv hP hz hA hS hl hL hn hc1 hc2
    exact hfin (some (pR x)) S zI zL H locs cells slots jl q _ hq0 ⟨cA, hP, hz, hA⟩ hS (by omega) (by omega) hk.1 (by
      have h2 := hk.2
      split at h2
      · rename_i t ht; exact ⟨t, ht, h2⟩
      · cases h2)
  case return_ =>
    obtain ⟨rfl, rfl, hq0⟩ := hs
    dsimp only [chkI, dk] at hk
    simp only [Bool.and_eq_true, decide_eq_true_eq] at hk
    intro H locs cells slots jl cA lv hP hz hA hS hl hL hn hc1 hc2
    exact hfin none S zI zL H locs cells slots jl q _ hq0 ⟨cA, hP, hz, hA⟩ hS (by omega) (by omega) hk.1 hk.2
  case getfield x =>
    replace hs := popR_el hs
    obtain ⟨h, r, rfl, ⟨ho, hlt⟩, hs⟩ := hs
    dsimp only [chkI] at hk
    simp only [Bool.and_eq_true, decide_eq_true_eq] at hk
    obtain ⟨⟨⟨⟨⟨hk1, hk2⟩, hc0⟩, hlf⟩, htag⟩, ha, hkN⟩ := hk
    obtain ⟨k1, k2⟩ := ck1 (by rw [Bool.and_eq_true]; exact ⟨hk1, hk2⟩)
    rw [beq_iff_eq] at htag
    subst htag
    intro H locs cells slots jl cA lv hP hz hA hS hl hL hn hc1 hc2
    have hw := hs H locs cells slots jl cA lv hP hz hA hS hl hL hn hc1 hc2
    rw [k2] at hw
    rw [List.map_cons, tvR hlt]
    refine va_get hx hb hts (lay_ok a ha) hown hKN.1 hP h (wlO_obj ho ha) (vwCl_at a ha) cc.toNat hkN (hts _ (LF_in hlf)) (fun _ z => z) (fsO_get hkN) k1 ?_
    rw [List.map_cons, tv_rdF] at hw
    rw [Int.toNat_of_nonneg hc0]
    exact hw
  case putfield x =>
    dsimp only [chkI] at hk
    simp only [Bool.and_eq_true, decide_eq_true_eq] at hk
    obtain ⟨⟨⟨⟨⟨hk1, hk2⟩, hc0⟩, hlf⟩, ha, hkN⟩, hfi⟩ := hk
    obtain ⟨k1, k2⟩ := ck1 (by rw [Bool.and_eq_true]; exact ⟨hk1, hk2⟩)
    have hcc : ((cc.toNat : Nat) : Int) = cc := Int.toNat_of_nonneg hc0
    have hput : ∀ (h : Nat) (v : PV) (r : List PV) (S' : SS) (zI' zL' : ZM), S.1[h]? = some (a, 0) → h < xbase → S'.1 = S.1 → (∀ i, i ≠ h → zI' i = zI i) → (∀ i, i ≠ h → zL' i = zL i) → (∀ i, i ≠ h → S'.2 i = S.2 i) →
        (∀ j : Nat, j ≠ cc.toNat → zI' h (j : Int) = zI h (j : Int)) → (∀ j : Nat, j ≠ cc.toNat → zL' h (j : Int) = zL h (j : Int)) → (∀ j : Nat, j ≠ cc.toNat → S'.2 h (j : Int) = S.2 h (j : Int)) →
        fvO bs ex S' zI' zL' (tyF a cc.toNat) h cc = tv bs ex v → narrow (tyF a cc.toNat) (tv bs ex v) = tv bs ex v → fits (tyF a cc.toNat) (tv bs ex v) = true →
        (SPO l D bs ex f p e R s m args below meth c CC QQ nx ls r S' zI' zL' mc ms) → ∀ (H : Heap) (locs : List Loc) (cells slots : Nat) (jl : Array Slot) (cA : Nat → ClassId) (lv : List (Nat × Value)), va_P D vwCl (wlO bs ex cA S zI zL) H → bs + S.1.length = s.heap.size + cells → ARO cA S s → va_S (fun q => bs ≤ q) s.heap H locs → lv_has jl (mL f) lv → LRO bs ex ls lv → ls.length = mL f → cells + mc = CC → slots + ms ≤ R.slots →
        W p l e R s m args below meth c H locs cells slots QQ (F0 m q jl (tv bs ex v :: .ref (bs + h) :: r.map (tv bs ex))) := by
      intro h v r S' zI' zL' ho hlt e1 e2 e3 e4 f1 f2 f3 hv hnw hft hs H locs cells slots jl cA lv hP hz hA hS hl hL hn hc1 hc2
      have hset : (wlO bs ex cA S zI zL).set h (bs + h, .inr (a, (fsO bs ex S zI zL a h).set cc.toNat (tv bs ex v))) = wlO bs ex cA S' zI' zL' := by
        refine wlO_set ho e1 e2 e3 e4 ?_
        unfold entO
        rw [if_pos (show a < 12 by omega), fsO_set (S' := S') (zI' := zI') (zL' := zL') hkN (by rw [hcc]; exact hv) f1 f2 f3]
      have hsz : ∀ H1 : Heap, ∀ locs1, va_P D vwCl (wlO bs ex cA S' zI' zL') H1 → va_S (fun q => bs ≤ q) s.heap H1 locs1 → W p l e R s m args below meth c H1 locs1 cells slots QQ (F0 m (q + 3) jl (r.map (tv bs ex))) := by
        intro H1 locs1 hP1 hS1
        have hw := hs H1 locs1 cells slots jl cA lv hP1 (by rw [e1]; exact hz) (fun i kd n hi hk => hA i kd n (by rw [← e1]; exact hi) hk) hS1 hl hL hn hc1 hc2
        rw [k2] at hw
        exact hw
      split at hfi
      · rename_i hfl
        simp only [Bool.and_eq_true, beq_iff_eq] at hfi
        obtain ⟨⟨-, hi1⟩, hi2⟩ := hfi
        refine va_putF hx hb hts (lay_ok a ha) (tyF a) (tyF_ok a ha) (nmF_ok a ha) hown hKN.1 hP (hD cA S zI zL) hS h (wlO_obj ho ha) (vwCl_at a ha) cc.toNat hkN (hts _ (LF_in hlf)) (fun _ z => z) hfl (hin hi1) (by rw [decl_ok a ha _ hkN, hi2]) (tyF_ok a ha _ hkN) hnw hft (by rw [fsO_len]; exact hkN) k1 fun H1 locs1 g1 g2 g3 => ?_
        rw [hset] at g1
        exact hsz H1 locs1 g1 g3
      · rename_i hfl
        refine va_put hx hb hts (lay_ok a ha) (tyF a) (tyF_ok a ha) (nmF_ok a ha) hown hKN.1 hP (hD cA S zI zL) hS h (wlO_obj ho ha) (vwCl_at a ha) cc.toNat hkN (hts _ (LF_in hlf)) (fun _ z => z) (by simpa using hfl) (tyF_ok a ha _ hkN) hnw hft (by rw [fsO_len]; exact hkN) k1 fun H1 locs1 g1 g2 g3 => ?_
        rw [hset] at g1
        exact hsz H1 locs1 g1 g3
    have htag : b = tagOf (tyF a cc.toNat) ∨ b = tagOf (tyF a cc.toNat) + 10 := by
      split at hfi
      · simp only [Bool.and_eq_true, beq_iff_eq] at hfi; exact Or.inr hfi.1.1
      · rw [beq_iff_eq] at hfi; exact Or.inl hfi
    have tg4 : tagOf (tyF a cc.toNat) ≤ 3 := by unfold tagOf; split <;> omega
    split at hs
    · rename_i hbt
      have ht : tyF a cc.toNat = .int := tag_int (by omega)
      replace hs := popI_el hs
      obtain ⟨x, r, rfl, hs⟩ := hs
      replace hs := popR_el hs
      obtain ⟨h, r, rfl, ⟨ho, hlt⟩, hs⟩ := hs
      rw [List.map_cons, List.map_cons, tvR hlt]
      refine hput h (pI x) r S (zput zI h cc x) zL ho hlt rfl (fun i hi => zput_row hi) (fun _ _ => rfl) (fun _ _ => rfl) (fun j hj => zput_off (by omega)) (fun _ _ => rfl) (fun _ _ => rfl) ?_ ?_ ?_ hs
      · rw [ht]; show Value.int (i3 (zput zI h cc x h cc)) = _; rw [zput_at]; rfl
      · rw [ht]; rfl
      · rw [ht]; rfl
    split at hs
    · rename_i hbt
      have ht : tyF a cc.toNat = .long := tag_long (by omega)
      replace hs := popL_el hs
      obtain ⟨x, r, rfl, hs⟩ := hs
      replace hs := popR_el hs
      obtain ⟨h, r, rfl, ⟨ho, hlt⟩, hs⟩ := hs
      rw [List.map_cons, List.map_cons, tvR hlt]
      refine hput h (pL x) r S zI (zput zL h cc x) ho hlt rfl (fun _ _ => rfl) (fun i hi => zput_row hi) (fun _ _ => rfl) (fun _ _ => rfl) (fun j hj => zput_off (by omega)) (fun _ _ => rfl) ?_ ?_ ?_ hs
      · rw [ht]; show Value.long (i6 (zput zL h cc x h cc)) = _; rw [zput_at]; rfl
      · rw [ht]; rfl
      · rw [ht]; rfl
    split at hs
    · rename_i hbt
      have ht : tyF a cc.toNat = .boolean := tag_bool (by omega)
      replace hs := popI_el hs
      obtain ⟨x, r, rfl, hs⟩ := hs
      replace hs := popR_el hs
      obtain ⟨h, r, rfl, ⟨ho, hlt⟩, hx01, hs⟩ := hs
      rw [List.map_cons, List.map_cons, tvR hlt]
      refine hput h (pI x) r S (zput zI h cc x) zL ho hlt rfl (fun i hi => zput_row hi) (fun _ _ => rfl) (fun _ _ => rfl) (fun j hj => zput_off (by omega)) (fun _ _ => rfl) (fun _ _ => rfl) ?_ ?_ ?_ hs
      · rw [ht]; show Value.int (i3 (zput zI h cc x h cc)) = _; rw [zput_at]; rfl
      · rw [ht]; rcases hx01 with rfl | rfl <;> rfl
      · rw [ht]; rcases hx01 with rfl | rfl <;> rfl
    · rename_i hb1 hb2 hb3
      have ht : refTy (tyF a cc.toNat) = true ∧ tagOf (tyF a cc.toNat) = 2 := ⟨tag_ref a ha _ hkN (by omega), by omega⟩
      replace hs := popR_el hs
      obtain ⟨x, r, rfl, hs⟩ := hs
      replace hs := popR_el hs
      obtain ⟨h, r, rfl, ⟨ho, hlt⟩, hs⟩ := hs
      rw [List.map_cons, List.map_cons, tvR hlt]
      refine hput h (pR x) r (S.1, rput S.2 h cc (some x)) zI zL ho hlt rfl (fun _ _ => rfl) (fun _ _ => rfl) (fun i hi => rput_row hi) (fun _ _ => rfl) (fun _ _ => rfl) (fun j hj => rput_off (by omega)) ?_ ?_ ?_ hs
      · rw [fvO_ref ht.1]; show va_rf ((rput S.2 h cc (some x) h cc).map _) = _; rw [rput_at]; rfl
      · exact narrow_ref ht.1
      · exact fits_ref ht.1
  case getstatic x =>
    dsimp only [chkI] at hk
    simp only [Bool.and_eq_true] at hk
    obtain ⟨hk1, hls⟩ := hk
    obtain ⟨k1, k2⟩ := ck1 (by rw [Bool.and_eq_true]; exact hk1)
    obtain ⟨ha, hw0⟩ := LS_in hls
    intro H locs cells slots jl cA lv hP hz hA hS hl hL hn hc1 hc2
    have hw := hs H locs cells slots jl cA lv hP hz hA hS hl hL hn hc1 hc2
    rw [k2] at hw
    refine va_getsN hx hb (hKN.2.2.1 a ha) hS hown (va_Nw.use rfl (hKN.2.2.2.1 _ hw0)) (fun _ z => z) k1 ?_
    have e1 : tv bs ex (pR (xbase + a)) = .ref (ex a) := by show Value.ref (ad bs ex (xbase + a)) = _; rw [ad_ge (by omega), Nat.add_sub_cancel_left]
    rw [List.map_cons, e1] at hw
    exact hw
  case iaload =>
    replace hs := popI_el hs
    obtain ⟨i, r, rfl, hs⟩ := hs
    replace hs := popR_el hs
    obtain ⟨h, r, rfl, hs⟩ := hs
    obtain ⟨k1, k2⟩ := ck1 hk
    intro H locs cells slots jl cA lv hP hz hA hS hl hL hn hc1 hc2
    unfold elI at hs
    split at hs
    · rename_i hlt
      obtain ⟨⟨n, hr, h0, h1, hn1⟩, hs⟩ := hs
      obtain ⟨e1, e2⟩ := i3_clamp h0 h1 (Nat.le_trans hn1 (by omega))
      have hw := hs H locs cells slots jl cA lv hP hz hA hS hl hL hn hc1 hc2
      rw [k2] at hw
      rw [List.map_cons, List.map_cons, tvR hlt]
      refine va_iald hx hb (tys := [(cA h, .int)]) (KNA hKN.1 (hA h 12 n hr (by omega))) hP h 0 (wlO_arr hr (by omega)) rfl e2 k1 ?_
      rw [e1, Int.toNat_of_nonneg h0]; exact hw
    · rename_i hlt
      obtain ⟨⟨he, hX, h0, h1⟩, hs⟩ := hs
      obtain ⟨e1, e2⟩ := i3_clamp h0 h1 hX
      have hw := hs H locs cells slots jl cA lv hP hz hA hS hl hL hn hc1 hc2
      rw [k2] at hw
      have e3 : tv bs ex (pR h) = .ref (ex (h - xbase)) := by show Value.ref (ad bs ex h) = _; rw [ad_ge hlt]
      rw [List.map_cons, List.map_cons, e3]
      refine va_ti hx hb (hKN.2.1 _ he) hS e2 rfl k1 ?_
      rw [e1, Int.toNat_of_nonneg h0]; exact hw
  case baload =>
    replace hs := popI_el hs
    obtain ⟨i, r, rfl, hs⟩ := hs
    replace hs := popR_el hs
    obtain ⟨h, r, rfl, ⟨⟨n, hr, h0, h1, hn1⟩, hlt⟩, hs⟩ := hs
    obtain ⟨k1, k2⟩ := ck1 hk
    obtain ⟨e1, e2⟩ := i3_clamp h0 h1 (Nat.le_trans hn1 (by omega))
    intro H locs cells slots jl cA lv hP hz hA hS hl hL hn hc1 hc2
    have hw := hs H locs cells slots jl cA lv hP hz hA hS hl hL hn hc1 hc2
    rw [k2] at hw
    rw [List.map_cons, List.map_cons, tvR hlt]
    refine va_zald hx hb (tys := [(cA h, .boolean)]) (KNA hKN.1 (hA h 14 n hr (by omega))) hP h 0 (wlO_arr hr (by omega)) rfl e2 k1 ?_
    rw [e1, Int.toNat_of_nonneg h0]; exact hw
  case laload =>
    replace hs := popI_el hs
    obtain ⟨i, r, rfl, hs⟩ := hs
    replace hs := popR_el hs
    obtain ⟨h, r, rfl, ⟨⟨n, hr, h0, h1, hn1⟩, hlt⟩, hs⟩ := hs
    obtain ⟨k1, k2⟩ := ck1 hk
    obtain ⟨e1, e2⟩ := i3_clamp h0 h1 (Nat.le_trans hn1 (by omega))
    intro H locs cells slots jl cA lv hP hz hA hS hl hL hn hc1 hc2
    have hw := hs H locs cells slots jl cA lv hP hz hA hS hl hL hn hc1 hc2
    rw [k2] at hw
    rw [List.map_cons, List.map_cons, tvR hlt]
    refine va_lald hx hb (tys := [(cA h, .long)]) (KNA hKN.1 (hA h 13 n hr (by omega))) hP h 0 (wlO_arr hr (by omega)) rfl e2 k1 ?_
    rw [e1, Int.toNat_of_nonneg h0]; exact hw
  case aaload =>
    replace hs := popI_el hs
    obtain ⟨i, r, rfl, hs⟩ := hs
    replace hs := popR_el hs
    obtain ⟨h, r, rfl, ⟨hor, hlt⟩, hs⟩ := hs
    obtain ⟨k1, k2⟩ := ck1 hk
    have hor : ∃ kd : Nat, (kd = 15 ∨ kd = 16 ∨ kd = 17) ∧ inrow S kd h i := by
      rcases hor with z | z | z
      · exact ⟨15, by omega, z⟩
      · exact ⟨16, by omega, z⟩
      · exact ⟨17, by omega, z⟩
    obtain ⟨kd, hkd, n, hr, h0, h1, hn1⟩ := hor
    obtain ⟨e1, e2⟩ := i3_clamp h0 h1 (Nat.le_trans hn1 (by omega))
    intro H locs cells slots jl cA lv hP hz hA hS hl hL hn hc1 hc2
    have hw := hs H locs cells slots jl cA lv hP hz hA hS hl hL hn hc1 hc2
    rw [k2] at hw
    rw [List.map_cons, List.map_cons, tvR hlt]
    have hA1 := hA h kd n hr (by omega)
    rw [show elT kd = .object (arN kd) by unfold elT; rw [if_neg (by omega), if_neg (by omega), if_neg (by omega)]] at hA1
    have hwl := wlO_arr (bs := bs) (ex := ex) (cA := cA) (zI := zI) (zL := zL) hr (by omega)
    rw [show arO bs ex S zI zL kd h = .inr (.inr (.inr (.inr fun j => (S.2 h (j : Int)).map (ad bs ex)))) by unfold arO; rw [if_neg (by omega), if_neg (by omega)]] at hwl
    refine va_aldq hx hb (tys := [(cA h, .object (arN kd))]) (KNA hKN.1 hA1) hP h 0 hwl rfl e2 k1 ?_
    rw [e1, Int.toNat_of_nonneg h0]; exact hw
  case iastore =>
    replace hs := popI_el hs
    obtain ⟨x, r, rfl, hs⟩ := hs
    replace hs := popI_el hs
    obtain ⟨i, r, rfl, hs⟩ := hs
    replace hs := popR_el hs
    obtain ⟨h, r, rfl, ⟨⟨n, hr, h0, h1, hn1⟩, hlt⟩, hs⟩ := hs
    obtain ⟨k1, k2⟩ := ck1 hk
    obtain ⟨e1, e2⟩ := i3_clamp h0 h1 (Nat.le_trans hn1 (by omega))
    intro H locs cells slots jl cA lv hP hz hA hS hl hL hn hc1 hc2
    rw [List.map_cons, List.map_cons, List.map_cons, tvR hlt]
    have hset : (wlO bs ex cA S zI zL).set h (bs + h, .inl (cA h, n, .inl (upd (fun j : Nat => i3 (zI h (j : Int))) (i3 i).toNatClampNeg (i3 x)))) = wlO bs ex cA S (zput zI h i x) zL := by
      refine wlO_set hr rfl (fun i hi => zput_row hi) (fun i hi => rfl) (fun _ _ => rfl) ?_
      rw [e1, upd_z (z := zI) (h := h) h0 x]
      rfl
    refine va_iast hx hb (tys := [(cA h, .int)]) (KNA hKN.1 (hA h 12 n hr (by omega))) hP (hD cA S zI zL) hS h 0 (wlO_arr hr (by omega)) rfl e2 k1 fun H1 locs1 g1 g2 g3 => ?_
    have g1 : va_P D vwCl ((wlO bs ex cA S zI zL).set h (bs + h, .inl (cA h, n, .inl (upd (fun j : Nat => i3 (zI h (j : Int))) (i3 i).toNatClampNeg (i3 x))))) H1 := g1
    rw [hset] at g1
    have hw := hs H1 locs1 cells slots jl cA lv g1 hz hA g3 hl hL hn hc1 hc2
    rw [k2] at hw
    exact hw
  case bastore =>
    replace hs := popI_el hs
    obtain ⟨x, r, rfl, hs⟩ := hs
    replace hs := popI_el hs
    obtain ⟨i, r, rfl, hs⟩ := hs
    replace hs := popR_el hs
    obtain ⟨h, r, rfl, ⟨⟨n, hr, h0, h1, hn1⟩, hlt⟩, hx01, hs⟩ := hs
    obtain ⟨k1, k2⟩ := ck1 hk
    obtain ⟨e1, e2⟩ := i3_clamp h0 h1 (Nat.le_trans hn1 (by omega))
    intro H locs cells slots jl cA lv hP hz hA hS hl hL hn hc1 hc2
    rw [List.map_cons, List.map_cons, List.map_cons, tvR hlt]
    have hset : (wlO bs ex cA S zI zL).set h (bs + h, .inl (cA h, n, .inl (upd (fun j : Nat => i3 (zI h (j : Int))) (i3 i).toNatClampNeg (vp_nar .boolean (i3 x))))) = wlO bs ex cA S (zput zI h i x) zL := by
      refine wlO_set hr rfl (fun i hi => zput_row hi) (fun i hi => rfl) (fun _ _ => rfl) ?_
      rw [e1, nar_b hx01, upd_z (z := zI) (h := h) h0 x]
      rfl
    refine va_zast hx hb (tys := [(cA h, .boolean)]) (KNA hKN.1 (hA h 14 n hr (by omega))) hP (hD cA S zI zL) hS h 0 (wlO_arr hr (by omega)) rfl e2 k1 fun H1 locs1 g1 g2 g3 => ?_
    have g1 : va_P D vwCl ((wlO bs ex cA S zI zL).set h (bs + h, .inl (cA h, n, .inl (upd (fun j : Nat => i3 (zI h (j : Int))) (i3 i).toNatClampNeg (vp_nar .boolean (i3 x)))))) H1 := g1
    rw [hset] at g1
    have hw := hs H1 locs1 cells slots jl cA lv g1 hz hA g3 hl hL hn hc1 hc2
    rw [k2] at hw
    exact hw
  case lastore =>
    replace hs := popL_el hs
    obtain ⟨x, r, rfl, hs⟩ := hs
    replace hs := popI_el hs
    obtain ⟨i, r, rfl, hs⟩ := hs
    replace hs := popR_el hs
    obtain ⟨h, r, rfl, ⟨⟨n, hr, h0, h1, hn1⟩, hlt⟩, hs⟩ := hs
    obtain ⟨k1, k2⟩ := ck1 hk
    obtain ⟨e1, e2⟩ := i3_clamp h0 h1 (Nat.le_trans hn1 (by omega))
    intro H locs cells slots jl cA lv hP hz hA hS hl hL hn hc1 hc2
    rw [List.map_cons, List.map_cons, List.map_cons, tvR hlt]
    have hset : (wlO bs ex cA S zI zL).set h (bs + h, .inl (cA h, n, .inr (.inl (vp_updL (fun j : Nat => i6 (zL h (j : Int))) (i3 i).toNatClampNeg (i6 x))))) = wlO bs ex cA S zI (zput zL h i x) := by
      refine wlO_set hr rfl (fun i hi => rfl) (fun i hi => zput_row hi) (fun _ _ => rfl) ?_
      rw [e1, updL_z (z := zL) (h := h) h0 x]
      rfl
    refine va_last hx hb (tys := [(cA h, .long)]) (KNA hKN.1 (hA h 13 n hr (by omega))) hP (hD cA S zI zL) hS h 0 (wlO_arr hr (by omega)) rfl e2 k1 fun H1 locs1 g1 g2 g3 => ?_
    have g1 : va_P D vwCl ((wlO bs ex cA S zI zL).set h (bs + h, .inl (cA h, n, .inr (.inl (vp_updL (fun j : Nat => i6 (zL h (j : Int))) (i3 i).toNatClampNeg (i6 x)))))) H1 := g1
    rw [hset] at g1
    have hw := hs H1 locs1 cells slots jl cA lv g1 hz hA g3 hl hL hn hc1 hc2
    rw [k2] at hw
    exact hw
  case aastore =>
    replace hs := popR_el hs
    obtain ⟨x, r, rfl, hs⟩ := hs
    replace hs := popI_el hs
    obtain ⟨i, r, rfl, hs⟩ := hs
    replace hs := popR_el hs
    obtain ⟨h, r, rfl, ⟨hor, hlt, hlx⟩, hs⟩ := hs
    obtain ⟨k1, k2⟩ := ck1 hk
    have hor : ∃ kd ci : Nat, (kd = 15 ∨ kd = 16 ∨ kd = 17) ∧ ci < 11 ∧ rN ci = arN kd ∧ inrow S kd h i ∧ S.1[x]? = some (ci, 0) := by
      rcases hor with z | z | z
      · exact ⟨15, 3, by omega, by omega, rfl, z⟩
      · exact ⟨16, 1, by omega, by omega, rfl, z⟩
      · exact ⟨17, 7, by omega, by omega, rfl, z⟩
    obtain ⟨kd, ci, hkd, hci, hrn, ⟨n, hr, h0, h1, hn1⟩, hxo⟩ := hor
    obtain ⟨e1, e2⟩ := i3_clamp h0 h1 (Nat.le_trans hn1 (by omega))
    intro H locs cells slots jl cA lv hP hz hA hS hl hL hn hc1 hc2
    rw [List.map_cons, List.map_cons, List.map_cons, tvR hlt, tvR hlx]
    have hA1 := hA h kd n hr (by omega)
    rw [show elT kd = .object (arN kd) by unfold elT; rw [if_neg (by omega), if_neg (by omega), if_neg (by omega)]] at hA1
    have hwl := wlO_arr (bs := bs) (ex := ex) (cA := cA) (zI := zI) (zL := zL) hr (by omega)
    rw [show arO bs ex S zI zL kd h = .inr (.inr (.inr (.inr fun j => (S.2 h (j : Int)).map (ad bs ex)))) by unfold arO; rw [if_neg (by omega), if_neg (by omega)]] at hwl
    have hset : (wlO bs ex cA S zI zL).set h (bs + h, .inl (cA h, n, .inr (.inr (.inr (.inr (va_up (fun j : Nat => (S.2 h (j : Int)).map (ad bs ex)) (i3 i).toNatClampNeg (some (bs + x)))))))) = wlO bs ex cA (S.1, rput S.2 h i (some x)) zI zL := by
      refine wlO_set hr rfl (fun _ _ => rfl) (fun _ _ => rfl) (fun i hi => rput_row hi) ?_
      have e5 : arO bs ex (S.1, rput S.2 h i (some x)) zI zL kd h = .inr (.inr (.inr (.inr (va_up (fun j : Nat => (S.2 h (j : Int)).map (ad bs ex)) i.toNat (some (bs + x)))))) := by
        unfold arO
        rw [if_neg (by omega), if_neg (by omega)]
        congr 4
        funext j
        exact (up_r h0 hlx j).symm
      unfold entO
      rw [if_neg (show ¬ kd < 12 by omega)]
      dsimp only
      rw [e5, e1]
    refine va_astq hx hb (tys := [(cA h, .object (arN kd))]) (KNA hKN.1 hA1) hP (hD cA S zI zL) hS h 0 x ci hwl (by rw [← hrn]; rfl) (wlO_obj hxo hci) (vwCl_at ci hci) e2 k1 fun H1 locs1 g1 g2 g3 => ?_
    rw [hset] at g1
    have hw := hs H1 locs1 cells slots jl cA lv g1 hz hA g3 hl hL hn hc1 hc2
    rw [k2] at hw
    exact hw
  case arraylength =>
    replace hs := popR_el hs
    obtain ⟨h, r, rfl, hs⟩ := hs
    obtain ⟨k1, k2⟩ := ck1 hk
    intro H locs cells slots jl cA lv hP hz hA hS hl hL hn hc1 hc2
    split at hs
    · rename_i hlt
      obtain ⟨n, kd, hkd, hr, hs⟩ := hs
      have hw := hs H locs cells slots jl cA lv hP hz hA hS hl hL hn hc1 hc2
      rw [k2] at hw
      rw [List.map_cons, tvR hlt]
      exact va_alen hx hb (tys := [(cA h, elT kd)]) (KNA hKN.1 (hA h kd n hr hkd)) hP h 0 (wlO_arr hr hkd) rfl (v := i3 (n : Int)) rfl k1 hw
    · rename_i hlt
      obtain ⟨he, hs⟩ := hs
      have hw := hs H locs cells slots jl cA lv hP hz hA hS hl hL hn hc1 hc2
      rw [k2] at hw
      have e3 : tv bs ex (pR h) = .ref (ex (h - xbase)) := by show Value.ref (ad bs ex h) = _; rw [ad_ge hlt]
      rw [List.map_cons, e3]
      exact va_tlen hx hb (hKN.2.1 _ he) hS (v := i3 ((X (h - xbase)).1 : Int)) rfl k1 hw
  case newarray t =>
    replace hs := popI_el hs
    obtain ⟨n, r, rfl, ⟨h0, h1, h2, h3, h4⟩, hs⟩ := hs
    dsimp only [chkI] at hk
    rw [Bool.and_eq_true] at hk
    obtain ⟨hk, hkd⟩ := hk
    obtain ⟨k1, k2⟩ := ck1 hk
    have hty : Cond.arrayClass (newarray.typeOf t) ∈ BIG ∧ newarray.typeOf t = elT a ∧ (a = 12 ∨ a = 13 ∨ a = 14) := by
      cases t <;> simp only [beq_iff_eq] at hkd <;> first | cases hkd; done | (subst hkd; exact ⟨arrW 126 _ (by decide +kernel), rfl, by omega⟩) | (subst hkd; exact ⟨arrW 125 _ (by decide +kernel), rfl, by omega⟩) | (subst hkd; exact ⟨arrW 1088 _ (by decide +kernel), rfl, by omega⟩)
    obtain ⟨hw0, hty, ha⟩ := hty
    obtain ⟨k, rfl⟩ := Int.eq_ofNat_of_zero_le h0
    rw [Int.toNat_natCast] at h3 hs
    have hkk : k ≤ 10000 := by omega
    intro H locs cells slots jl cA lv hP hz hA hS hl hL hn hc1 hc2
    refine W_sz fun hsz => ?_
    have hlow := low_sz hP (Nat.le_trans hbs hS.1)
    have hHs : H.size = bs + S.1.length := by omega
    obtain ⟨hcb, hdf⟩ : componentBytes (newarray.typeOf t) ≤ 8 ∧ True := ⟨by rw [hty]; rcases ha with rfl | rfl | rfl <;> decide, trivial⟩
    refine va_newaK (N := k) hx hb (hts _ hw0) rfl k1 rfl (nI_pos (by omega)) (nI_clamp (by omega)) (Nat.le_trans (Nat.mul_le_mul hkk hcb) (by decide)) (by omega) (by omega) hHs fun H1 cA1 e1 z1 o1 hAr hNm => ?_
    have o1 : ∀ q, q < H.size → H1[q]? = H[q]? := fun q hq => o1 q (by omega)
    have hP1 : va_P D vwCl (wlO bs ex (fun i => if i = S.1.length then cA1 else cA i) (S.1 ++ [(a, k)], S.2) (zrow zI S.1.length fun _ => 0) (zrow zL S.1.length fun _ => 0)) H1 := by
      refine push_P hP o1 (wlO_push rfl (fun i hi => zrow_other hi) (fun i hi => zrow_other hi) (fun _ _ => rfl) (fun i hi => if_neg (Nat.ne_of_lt hi)) rfl) ?_
      unfold entO
      rw [if_neg (show ¬ (a, k).1 < 12 by dsimp only; omega)]
      dsimp only
      rw [if_pos rfl]
      show H1[bs + S.1.length]? = some (vp_cell cA1 (k, _))
      rw [e1]
      congr 1
      unfold arO
      rcases ha with rfl | rfl | rfl
      · rw [if_neg (by decide), if_pos (by decide), hty, vp_cell_i]
        congr 1; funext j; show _ = Value.int (i3 (zrow _ _ _ _ _)); rw [zrow_at]; rfl
      · rw [if_pos rfl, hty, vp_cell_l]
        congr 1; funext j; show _ = Value.long (i6 (zrow _ _ _ _ _)); rw [zrow_at]; rfl
      · rw [if_neg (by decide), if_pos (by decide), hty, vp_cell_i]
        congr 1; funext j; show _ = Value.int (i3 (zrow _ _ _ _ _)); rw [zrow_at]; rfl
    have hA1 : ARO (fun i => if i = S.1.length then cA1 else cA i) (S.1 ++ [(a, k)], S.2) s := ARO_push hA fun _ => ⟨by rw [← hty]; exact hAr, by rw [← hty]; rw [hty] at hNm ⊢; rcases ha with rfl | rfl | rfl <;> exact hNm⟩
    have hw := hs H1 locs (cells + 1) (slots + k) jl _ lv hP1 (by rw [List.length_append]; simp only [List.length_singleton]; omega) hA1 (va_S_grow hS (by omega) o1) hl hL hn (by omega) (by omega)
    rw [k2, List.map_cons, tvR (by unfold xbase; omega)] at hw
    exact hw
  case anewarray x =>
    replace hs := popI_el hs
    obtain ⟨n, r, rfl, ⟨h0, h1, h2, h3, h4⟩, hs⟩ := hs
    dsimp only [chkI] at hk
    rw [Bool.and_eq_true] at hk
    obtain ⟨hk, hla⟩ := hk
    obtain ⟨k1, k2⟩ := ck1 hk
    obtain ⟨ha, hw0⟩ := LA_in hla
    obtain ⟨k, rfl⟩ := Int.eq_ofNat_of_zero_le h0
    rw [Int.toNat_natCast] at h3 hs
    have hkk : k ≤ 10000 := by omega
    intro H locs cells slots jl cA lv hP hz hA hS hl hL hn hc1 hc2
    refine W_sz fun hsz => ?_
    have hlow := low_sz hP (Nat.le_trans hbs hS.1)
    have hHs : H.size = bs + S.1.length := by omega
    have hcl : (i3 (k : Int)).toNatClampNeg = k := nI_clamp (by omega)
    refine W.anew hx hb hown (hts _ hw0) (va_AO.use (hKN.2.2.2.2 a ha)) rfl k1 rfl (nI_pos (by omega)) (by rw [hcl]; omega) (by omega) (by rw [hcl]; omega) fun cA1 kA comp f1 f2 f3 f4 => ?_
    rw [hcl]
    generalize hH1 : H.push ({ cls := cA1, slots := Array.replicate k .null, vm := .none } : Cell) = H1
    have z1 : H1.size = H.size + 1 := by rw [← hH1, Array.size_push]
    have e1 : H1[bs + S.1.length]? = some (arrV cA1 k (fun _ => .null)) := by rw [← hH1, ← hHs, Array.getElem?_push_size, ← arrV_new]
    have o1 : ∀ q : Nat, q < H.size → H1[q]? = H[q]? := fun q hq => by rw [← hH1, Array.getElem?_push, if_neg (Nat.ne_of_lt hq)]
    have hel : elT a = .object (arN a) := by unfold elT; rw [if_neg (by omega), if_neg (by omega), if_neg (by omega)]
    have hP1 : va_P D vwCl (wlO bs ex (fun i => if i = S.1.length then cA1 else cA i) (S.1 ++ [(a, k)], rrow S.2 S.1.length) zI zL) H1 := by
      refine push_P hP o1 (wlO_push rfl (fun _ _ => rfl) (fun _ _ => rfl) (fun i hi => rrow_other hi) (fun i hi => if_neg (Nat.ne_of_lt hi)) rfl) ?_
      unfold entO
      rw [if_neg (show ¬ (a, k).1 < 12 by dsimp only; omega)]
      dsimp only
      rw [if_pos rfl]
      show H1[bs + S.1.length]? = some (vp_cell cA1 (k, _))
      rw [e1]
      congr 1
      unfold arO
      dsimp only
      rw [if_neg (by omega), if_neg (by omega), vp_cell_q]
      congr 1; funext j; rw [rrow_at]; rfl
    have hA1 : ARO (fun i => if i = S.1.length then cA1 else cA i) (S.1 ++ [(a, k)], rrow S.2 S.1.length) s := ARO_push hA fun _ => by
      rw [hel]
      exact ⟨fun N z => ⟨(fun k h => by cases h), kA, f2, comp, f3⟩, kA, comp, f2, f3, f4, f1⟩
    have hw := hs H1 locs (cells + 1) (slots + k) jl _ lv hP1 (by rw [List.length_append]; simp only [List.length_singleton]; omega) hA1 (va_S_grow hS (by omega) o1) hl hL hn (by omega) (by omega)
    rw [k2, List.map_cons, tvR (by unfold xbase; omega), ← hHs] at hw
    exact hw
  case new x =>
    obtain ⟨⟨h2, h3, h4⟩, hs⟩ := hs
    dsimp only [chkI] at hk
    rw [Bool.and_eq_true] at hk
    obtain ⟨hk, hln⟩ := hk
    obtain ⟨k1, k2⟩ := ck1 hk
    obtain ⟨ha, w1, w2, w3⟩ := LN_in hln
    intro H locs cells slots jl cA lv hP hz hA hS hl hL hn hc1 hc2
    refine W_sz fun hsz => ?_
    have hlow := low_sz hP (Nat.le_trans hbs hS.1)
    have hHs : H.size = bs + S.1.length := by omega
    have hKn := hKN.1.1 a _ (vwCl_at a ha)
    refine W.newcK hx hb hown (hts _ w1) (hts _ w2) (hts _ w3) rfl k1 (by omega) (by omega) hKn.2.1 hHs fun H1 kC hkC e1 z1 o1 => ?_
    have o1 : ∀ q, q < H.size → H1[q]? = H[q]? := fun q hq => o1 q (by omega)
    have hP1 : va_P D vwCl (wlO bs ex cA (S.1 ++ [(a, 0)], rrow S.2 S.1.length) (zrow zI S.1.length fun _ => 0) (zrow zL S.1.length fun _ => 0)) H1 := by
      refine push_P hP o1 (wlO_push rfl (fun i hi => zrow_other hi) (fun i hi => zrow_other hi) (fun i hi => rrow_other hi) (fun _ _ => rfl) rfl) ?_
      unfold entO
      rw [if_pos (show (a, 0).1 < 12 by dsimp only; omega)]
      refine ⟨_, vwCl_at a ha, (u_born (tyF a) hts (lay_ok a ha) hKn hkC e1 (tyF_ok a ha)).to fun j hj => ?_⟩
      show _ = vp_V (fsO bs ex _ _ _ a S.1.length) j
      unfold vp_V
      rw [List.getD_eq_getElem?_getD, fsO_get hj]
      show _ = fvO bs ex _ _ _ (tyF a j) S.1.length (j : Int)
      cases htt : tyF a j <;> first
        | (show _ = Value.int (i3 (zrow _ _ _ _ _)); rw [zrow_at]; rfl)
        | (show _ = Value.long (i6 (zrow _ _ _ _ _)); rw [zrow_at]; rfl)
        | (show _ = va_rf ((rrow _ _ _ _).map _); rw [rrow_at]; first | rfl | exact absurd (tyF_in a ha j hj) (by rw [htt]; decide))
    have hA1 : ARO cA (S.1 ++ [(a, 0)], rrow S.2 S.1.length) s := by
      have h := ARO_push (kd := a) (n := 0) (r := rrow S.2 S.1.length) (c1 := cA S.1.length) hA (fun q => by omega)
      have e : (fun i => if i = S.1.length then cA S.1.length else cA i) = cA := by funext i; by_cases q : i = S.1.length <;> simp [q]
      rw [e] at h
      exact h
    have hw := hs H1 locs (cells + 1) (slots + NF a) jl cA lv hP1 (by rw [List.length_append]; simp only [List.length_singleton]; omega) hA1 (va_S_grow hS (by omega) o1) hl hL hn (by omega) (by omega)
    rw [k2, List.map_cons, tvR (by unfold xbase; omega)] at hw
    exact hw
  case invokevirtual x =>
    obtain ⟨hrecv, hn1, hcat, hmc, hms, hcall⟩ := hs
    dsimp only [chkI] at hk
    simp only [Bool.and_eq_true, decide_eq_true_eq, beq_iff_eq] at hk
    obtain ⟨⟨⟨⟨hk1, hk2⟩, hlk⟩, hrn⟩, hra⟩ := hk
    have ha : a < 214 := by simpa [callLt] using hca
    obtain ⟨k1, k2⟩ := ck1 (by rw [Bool.and_eq_true, beq_iff_eq]; exact ⟨hk1, hk2⟩)
    replace hlk := any_s (P := fun e => e.1 == RC f && e.2.1 == x && e.2.2.1 == 0 && e.2.2.2.1 == a) hlk
    obtain ⟨n, rfl, hlk⟩ := hlk
    obtain ⟨p1, p2, p3, hck, hpn⟩ := LK_in hlk
    have hpn := hpn (by omega)
    unfold ckK at hck
    simp only [Bool.and_eq_true] at hck
    obtain ⟨⟨w1, w2⟩, w3⟩ := hck
    have w1 := inT_big w1
    have w2 := inT_big w2
    have w3 := inT_big w3
    obtain ⟨m1, m2, m3, m4, m5⟩ := LM_in ha
    have hM := IH a _ S zI zL _ ha hcall
    unfold recv at hrecv
    rw [Nat.add_sub_cancel] at hrecv
    split at hrecv
    case h_2 => exact hrecv.elim
    rename_i h hst
    obtain ⟨ho, hlt⟩ := hrecv
    intro H locs cells slots jl cA lv hP hz hA hS hl hL hn hc1 hc2
    refine W_sz fun hsz => ?_
    have hlow := low_sz hP (Nat.le_trans hbs hS.1)
    have hHs : H.size = bs + S.1.length := by omega
    have hst1 : st = st.take n ++ pR h :: st.drop (n + 1) := by
      rw [← List.take_append_drop n st, List.take_append_of_le_length (by rw [List.length_take]; omega), List.take_take, Nat.min_self]
      congr 1
      rw [List.take_append_drop]
      have := List.drop_eq_getElem_cons (show n < st.length by omega)
      rw [this]
      congr 1
      exact Option.some.inj ((List.getElem?_eq_getElem (show n < st.length by omega)).symm.trans hst)
    have has : (st.take (n + 1)).reverse = pR h :: (st.take n).reverse := by
      rw [List.take_add_one, hst]; simp
    rw [has] at hM
    have hlen : (st.take n).length = n := by rw [List.length_take]; omega
    refine callG (va_runV (As := (st.take n).reverse.map (tv bs ex)) (rest := (st.drop (n + 1)).map (tv bs ex)) (b := bs + h) ⟨hx, hb, hml, hown, hts⟩ hM (cwV n hts (fun w hw => ?_) rfl rfl rfl ⟨rfl, m4, m5, hpn⟩ ⟨by show d + 1 ≤ R.frames; exact hRf, by show 8 + (mL a + 11) + 60 * d ≤ R.locals; have := mL_le a (by omega); omega⟩) ⟨PcO_blind _ _ _ _ _ _ _ _, ?_, fun U hU hW => ?_⟩ rfl (by rw [List.length_map, List.length_reverse, hlen]) hl.1 ?_ (lv_room (by rw [tv_cats]; exact hcat)) k1 ⟨by show cells + MC a ≤ R.cells; omega, by show slots + MS a ≤ R.slots; omega⟩) hS fun r0 S' zI' zL' H1 locs1 cA' hq0 g1 g2 g3 g4 => ?_
    · unfold wsV at hw
      rcases List.mem_append.mp hw with q | q
      · simp only [List.mem_cons, List.not_mem_nil, or_false] at q
        rcases q with rfl | rfl | rfl | rfl
        · exact big_good w1
        · exact big_good w2
        · exact big_good w3
        · exact big_good m2
      · rcases List.mem_cons.mp q with rfl | q
        · exact big_good m1
        · exact big_good q
    · have := va_recv hKN.1 hP (vwCl_at _ hra) (wlO_obj ho hra)
      rw [← hrn]; exact this
    · have := PcO_of (as := pR h :: (st.take n).reverse) hKN hbs hP hHs hA hS hU hW
      rw [List.map_cons, tvR hlt] at this
      exact this
    · show st.map (tv bs ex) = _
      conv => lhs; rw [hst1]
      rw [List.map_append, List.map_cons, tvR hlt, List.map_reverse, List.reverse_reverse]
    · have hw := hq0 H1 locs1 (cells + MC a) (slots + MS a) jl cA' lv g1 (by omega) g3 g4 hl hL hn (by omega) (by omega)
      rw [k2, List.map_append] at hw
      cases r0 <;> exact hw
  case invokestatic x =>
    dsimp only [chkI] at hk
    rw [Bool.and_eq_true] at hk
    obtain ⟨hk, hlk⟩ := hk
    obtain ⟨k1, k2⟩ := ck1 hk
    split at hs
    · rename_i hc6
      rw [if_pos hc6] at hlk
      obtain ⟨f1, n1, p1, p2, p3, hck⟩ := LK_o hlk
      have hck := inT_big (show inT p1 (.methodLink (rN (RC f)) x arraycopyName) = true from hck)
      replace hs := popI_el hs
      obtain ⟨n, r, rfl, hs⟩ := hs
      replace hs := popI_el hs
      obtain ⟨dp, r, rfl, hs⟩ := hs
      replace hs := popR_el hs
      obtain ⟨dst, r, rfl, hs⟩ := hs
      replace hs := popI_el hs
      obtain ⟨sp, r, rfl, hs⟩ := hs
      replace hs := popR_el hs
      obtain ⟨src, r, rfl, hcat, kd, n0, n1, hr0, hr1, hlt0, hlt1, hn0, hn1, a0, a1, a2, a3, a4, hs⟩ := hs
      intro H locs cells slots jl cA lv hP hz hA hS hl hL hn hc1 hc2
      have cl : ∀ z : Int, 0 ≤ z → z ≤ 10000 → (i3 z).toNatClampNeg = z.toNat ∧ ¬ i3 z < 0 := fun z h1 h2 => by
        obtain ⟨k, rfl⟩ := Int.eq_ofNat_of_zero_le h1
        exact ⟨nI_clamp (by omega), nI_pos (by omega)⟩
      obtain ⟨c1, c2⟩ := cl sp a0 (by omega)
      obtain ⟨c3, c4⟩ := cl dp a1 (by omega)
      obtain ⟨c5, c6⟩ := cl n a2 (by omega)
      have e1 : dp.toNat + n.toNat ≤ n1 := by omega
      rw [List.map_cons, List.map_cons, List.map_cons, List.map_cons, List.map_cons, tvR hlt0, tvR hlt1]
      have hnf : (((r.map (tv bs ex)).map fun v => v.category).sum + (nativeFrameWords "java/lang/System" "arraycopy" 5 + 11) ≤ R.locals) := by
        rw [tv_cats]
        have : nativeFrameWords "java/lang/System" "arraycopy" 5 ≤ 7 := by decide
        omega
      have wn : Cond.native arraycopyName ∈ BIG := inT_big (i := 437) (by decide +kernel)
      have wst : Cond.static arraycopyName ∈ BIG := inT_big (i := 436) (by decide +kernel)
      have win : Cond.initialized "java/lang/System" ∈ BIG := inT_big (i := 88) (by decide +kernel)
      rcases hs with ⟨rfl, hs⟩ | ⟨rfl, hs⟩
      · refine va_copyi hx hb (by rw [hml]; exact hl.1.symm) hown (hts _ hck) (hts _ wn) (hts _ wst) (hts _ win) (tys := [(cA src, .int), (cA dst, .int)]) (KNA2 hKN.1 (hA src 12 n0 hr0 (by omega)) (hA dst 12 n1 hr1 (by omega))) hP (hD cA S zI zL) hS src dst 0 1 (wlO_arr hr0 (by omega)) (wlO_arr hr1 (by omega)) rfl rfl rfl c2 c4 c6 (by rw [c1, c5]; omega) (by rw [c3, c5]; exact e1) (fun i hi => rfl) (by omega) hnf k1 fun H1 locs1 g1 g2 g3 => ?_
        rw [c1, c3, c5] at g1
        rw [wlO_set (S' := S) (zI' := zrow zI dst (cpI (zI src) (zI dst) sp dp n)) (zL' := zL) hr1 rfl (fun i hi => zrow_ne hi) (fun _ _ => rfl) (fun _ _ => rfl) (e := .inl (cA dst, n1, .inl (va_cpy (fun j : Nat => i3 (zI src (j : Int))) (fun j : Nat => i3 (zI dst (j : Int))) sp.toNat dp.toNat n.toNat))) (by
          rw [show va_cpy (fun j : Nat => i3 (zI src (j : Int))) (fun j : Nat => i3 (zI dst (j : Int))) sp.toNat dp.toNat n.toNat = fun j : Nat => i3 (zrow zI dst (cpI (zI src) (zI dst) sp dp n) dst (j : Int)) from funext (cpy_i3 a0 a1 a2)]
          rfl)] at g1
        have hw := hs H1 locs1 cells slots jl cA lv g1 hz hA g3 hl hL hn hc1 hc2
        rw [k2] at hw
        exact hw
      · refine va_copyl hx hb (by rw [hml]; exact hl.1.symm) hown (hts _ hck) (hts _ wn) (hts _ wst) (hts _ win) (tys := [(cA src, .long), (cA dst, .long)]) (KNA2 hKN.1 (hA src 13 n0 hr0 (by omega)) (hA dst 13 n1 hr1 (by omega))) hP (hD cA S zI zL) hS src dst 0 1 (wlO_arr hr0 (by omega)) (wlO_arr hr1 (by omega)) rfl rfl rfl c2 c4 c6 (by rw [c1, c5]; omega) (by rw [c3, c5]; exact e1) (fun i hi => rfl) (by omega) hnf k1 fun H1 locs1 g1 g2 g3 => ?_
        rw [c1, c3, c5] at g1
        rw [wlO_set (S' := S) (zI' := zI) (zL' := zrow zL dst (cpI (zL src) (zL dst) sp dp n)) hr1 rfl (fun _ _ => rfl) (fun i hi => zrow_ne hi) (fun _ _ => rfl) (e := .inl (cA dst, n1, .inr (.inl (va_cpy (fun j : Nat => i6 (zL src (j : Int))) (fun j : Nat => i6 (zL dst (j : Int))) sp.toNat dp.toNat n.toNat)))) (by
          rw [show va_cpy (fun j : Nat => i6 (zL src (j : Int))) (fun j : Nat => i6 (zL dst (j : Int))) sp.toNat dp.toNat n.toNat = fun j : Nat => i6 (zrow zL dst (cpI (zL src) (zL dst) sp dp n) dst (j : Int)) from funext (cpy_i6 a0 a1 a2)]
          rfl)] at g1
        have hw := hs H1 locs1 cells slots jl cA lv g1 hz hA g3 hl hL hn hc1 hc2
        rw [k2] at hw
        exact hw
    · rename_i hc6
      rw [if_neg hc6] at hlk
      obtain ⟨hn1, hcat, hmc, hms, hcall⟩ := hs
      have ha : a < 214 := by simpa [callLt] using hca
      obtain ⟨m1, m2, m3, m4, m5⟩ := LM_in ha
      have hM := IH a _ S zI zL _ ha hcall
      have hlen : ((st.take b).reverse.map (tv bs ex)).length = b := by rw [List.length_map, List.length_reverse, List.length_take]; omega
      have hstk : st.map (tv bs ex) = ((st.take b).reverse.map (tv bs ex)).reverse ++ (st.drop b).map (tv bs ex) := by
        rw [List.map_reverse, List.reverse_reverse, ← List.map_append, List.take_append_drop]
      intro H locs cells slots jl cA lv hP hz hA hS hl hL hn hc1 hc2
      refine W_sz fun hsz => ?_
      have hlow := low_sz hP (Nat.le_trans hbs hS.1)
      have hHs : H.size = bs + S.1.length := by omega
      rw [Bool.or_eq_true, Bool.and_eq_true, Bool.and_eq_true] at hlk
      rcases hlk with ⟨-, hlk⟩ | ⟨-, hlk⟩
      · obtain ⟨p1, p2, p3, hck, hpn⟩ := LK_in hlk
        have hpn := hpn (by omega)
        unfold ckK at hck
        simp only [Bool.and_eq_true] at hck
        have w1 := inT_big hck.1
        have w2 := inT_big hck.2
        refine callG (va_runS (As := (st.take b).reverse.map (tv bs ex)) (rest := (st.drop b).map (tv bs ex)) ⟨hx, hb, hml, hown, hts⟩ hM (va_cwS b hts (fun w hw => ?_) rfl rfl rfl ⟨m4, m5, hpn⟩ ⟨by show d + 1 ≤ R.frames; exact hRf, by show 8 + (mL a + 11) + 60 * d ≤ R.locals; have := mL_le a (by omega); omega⟩) ⟨PcO_blind _ _ _ _ _ _ _ _, fun U hU hW => PcO_of hKN hbs hP hHs hA hS hU hW⟩ rfl hlen hl.1 hstk (lv_room (by rw [tv_cats]; exact hcat)) k1 ⟨by show cells + MC a ≤ R.cells; omega, by show slots + MS a ≤ R.slots; omega⟩) hS fun r0 S' zI' zL' H1 locs1 cA' hq0 g1 g2 g3 g4 => ?_
        · unfold va_wsS at hw
          rcases List.mem_append.mp hw with q | q
          · simp only [List.mem_cons, List.not_mem_nil, or_false] at q
            rcases q with rfl | rfl | rfl
            · exact big_good w1
            · exact big_good w2
            · exact big_good m2
          · rcases List.mem_cons.mp q with rfl | q
            · exact big_good m1
            · exact big_good q
        · have hw := hq0 H1 locs1 (cells + MC a) (slots + MS a) jl cA' lv g1 (by omega) g3 g4 hl hL hn (by omega) (by omega)
          rw [k2, List.map_append] at hw
          cases r0 <;> exact hw
      · obtain ⟨p1, p2, p3, hck, hpn⟩ := LK_in hlk
        have hpn := hpn (by omega)
        unfold ckK at hck
        simp only [Bool.and_eq_true] at hck
        have w1 := inN_nest hck.1
        have w2 := inT_big hck.2
        refine callG (va_runSN (host := "CornerCurves") (As := (st.take b).reverse.map (tv bs ex)) (rest := (st.drop b).map (tv bs ex)) ⟨hx, hb, hml, hown, hts⟩ hM ⟨va_cnB b hts (fun w hw => ?_) rfl rfl rfl (hKN.2.2.2.1 _ w1) (hts _ m2) ⟨m4, m5, hpn⟩ ⟨by show d + 1 ≤ R.frames; exact hRf, by show 8 + (mL a + 11) + 60 * d ≤ R.locals; have := mL_le a (by omega); omega⟩, hts _ w2, trivial⟩ ⟨PcO_blind _ _ _ _ _ _ _ _, fun U hU hW => PcO_of hKN hbs hP hHs hA hS hU hW⟩ rfl hlen hl.1 hstk (lv_room (by rw [tv_cats]; exact hcat)) k1 ⟨by show cells + MC a ≤ R.cells; omega, by show slots + MS a ≤ R.slots; omega⟩) hS fun r0 S' zI' zL' H1 locs1 cA' hq0 g1 g2 g3 g4 => ?_
        · rcases List.mem_cons.mp hw with rfl | q
          · exact big_good m1
          · exact big_good q
        · have hw := hq0 H1 locs1 (cells + MC a) (slots + MS a) jl cA' lv g1 (by omega) g3 g4 hl hL hn (by omega) (by omega)
          rw [k2, List.map_append] at hw
          cases r0 <;> exact hw
  case invokespecial x =>
    dsimp only [chkI] at hk
    rw [Bool.and_eq_true] at hk
    obtain ⟨hk, hlk⟩ := hk
    obtain ⟨k1, k2⟩ := ck1 hk
    split at hs
    · rename_i hc5
      rw [if_pos hc5] at hlk
      obtain ⟨f1, n1, p1, p2, p3, hck⟩ := LK_o hlk
      have hck := inT_big (show inT p1 (.methodLink (rN (RC f)) x objectInit) = true from hck)
      replace hs := popR_el hs
      obtain ⟨h, r, rfl, hcat, hs⟩ := hs
      intro H locs cells slots jl cA lv hP hz hA hS hl hL hn hc1 hc2
      have hw := hs H locs cells slots jl cA lv hP hz hA hS hl hL hn hc1 hc2
      rw [k2] at hw
      have wi : Cond.instanceMethod objectInit ∈ BIG := inT_big (i := 98) (by decide +kernel)
      have wc : Cond.code objectInit ⟨#[0xb1]⟩ 1 none ∈ BIG := inT_big (i := 99) (by decide +kernel)
      exact W.objInit hx hb hown (hts _ hck) (hts _ wi) (hts _ wc) rfl (by rw [hml]; exact hl.1) rfl k1 (by omega) (by have := tv_cats bs ex r; show 2 * 0 + _ + 12 ≤ _; omega) hw
    · rename_i hc5
      rw [if_neg hc5] at hlk
      obtain ⟨hrecv, hn1, hcat, hmc, hms, hcall⟩ := hs
      rw [Bool.and_eq_true, beq_iff_eq] at hlk
      obtain ⟨hret, hlk⟩ := hlk
      have ha : a < 214 := by simpa [callLt] using hca
      obtain ⟨m1, m2, m3, m4, m5⟩ := LM_in ha
      have hM := IH a _ S zI zL _ ha hcall
      have hlk2 : ∃ n so, b = n + 1 ∧ ((so = 3 ∧ LKs.any (fun e => e.1 == RC f && e.2.1 == x && e.2.2.1 == 3 && e.2.2.2.1 == a && e.2.2.2.2.1 == n) = true) ∨ (so = 4 ∧ LKs.any (fun e => e.1 == RC f && e.2.1 == x && e.2.2.1 == 4 && e.2.2.2.1 == a && e.2.2.2.2.1 == n) = true)) := by
        rw [Bool.or_eq_true, Bool.and_eq_true, Bool.and_eq_true] at hlk
        rcases hlk with ⟨-, hlk⟩ | ⟨-, hlk⟩
        · obtain ⟨n, hb', hlk⟩ := any_s (P := fun e => e.1 == RC f && e.2.1 == x && e.2.2.1 == 3 && e.2.2.2.1 == a) hlk
          exact ⟨n, 3, hb', Or.inl ⟨rfl, hlk⟩⟩
        · obtain ⟨n, hb', hlk⟩ := any_s (P := fun e => e.1 == RC f && e.2.1 == x && e.2.2.1 == 4 && e.2.2.2.1 == a) hlk
          exact ⟨n, 4, hb', Or.inr ⟨rfl, hlk⟩⟩
      clear hlk
      obtain ⟨n, so, rfl, hlk⟩ := hlk2
      unfold recvA at hrecv
      rw [Nat.add_sub_cancel] at hrecv
      split at hrecv
      case h_2 => exact hrecv.elim
      rename_i h hst
      intro H locs cells slots jl cA lv hP hz hA hS hl hL hn hc1 hc2
      refine W_sz fun hsz => ?_
      have hlow := low_sz hP (Nat.le_trans hbs hS.1)
      have hHs : H.size = bs + S.1.length := by omega
      have hst1 : st = st.take n ++ pR h :: st.drop (n + 1) := by
        rw [← List.take_append_drop n st, List.take_append_of_le_length (by rw [List.length_take]; omega), List.take_take, Nat.min_self]
        congr 1
        rw [List.take_append_drop]
        have := List.drop_eq_getElem_cons (show n < st.length by omega)
        rw [this]
        congr 1
        exact Option.some.inj ((List.getElem?_eq_getElem (show n < st.length by omega)).symm.trans hst)
      have has : (st.take (n + 1)).reverse = pR h :: (st.take n).reverse := by
        rw [List.take_add_one, hst]; simp
      rw [has] at hM
      have hlen : ((st.take n).reverse.map (tv bs ex)).length = n := by rw [List.length_map, List.length_reverse, List.length_take]; omega
      have hstk : st.map (tv bs ex) = ((st.take n).reverse.map (tv bs ex)).reverse ++ .ref (ad bs ex h) :: (st.drop (n + 1)).map (tv bs ex) := by
        conv => lhs; rw [hst1]
        rw [List.map_append, List.map_cons, List.map_reverse, List.reverse_reverse]; rfl
      have hgood : GoodIn BIG (wsO a) := fun w hw => by
        rcases List.mem_cons.mp hw with rfl | q
        · exact big_good m1
        · exact big_good q
      have hwo : wsO a = Cond.code (mY a) (mB a) (mL a) none :: BIG := by unfold wsO; rw [hret]
      rcases hlk with ⟨rfl, hlk⟩ | ⟨rfl, hlk⟩
      · obtain ⟨p1, p2, p3, hck, hpn⟩ := LK_in hlk
        have hpn := hpn (by omega)
        unfold ckK at hck
        simp only [Bool.and_eq_true, decide_eq_true_eq] at hck
        obtain ⟨⟨w1, w2⟩, w3⟩ := hck
        refine callG (va_runI (b := ad bs ex h) (As := (st.take n).reverse.map (tv bs ex)) (rest := (st.drop (n + 1)).map (tv bs ex)) ⟨hx, hb, hml, hown, hts⟩ hM (cwI n hts hgood hwo rfl rfl (hts _ m2) (hts _ (inT_big w1)) (hts _ (inT_big w2)) w3 ⟨m4, m5, hpn⟩ ⟨by show d + 1 ≤ R.frames; exact hRf, by show 8 + (mL a + 11) + 60 * d ≤ R.locals; have := mL_le a (by omega); omega⟩) ⟨PcO_blind _ _ _ _ _ _ _ _, fun U hU hW => PcO_of (as := pR h :: (st.take n).reverse) hKN hbs hP hHs hA hS hU hW⟩ rfl hlen hl.1 hstk (lv_room (by rw [tv_cats]; exact hcat)) k1 ⟨by show cells + MC a ≤ R.cells; omega, by show slots + MS a ≤ R.slots; omega⟩) hS fun r0 S' zI' zL' H1 locs1 cA' hq0 g1 g2 g3 g4 => ?_
        have hw := hq0 H1 locs1 (cells + MC a) (slots + MS a) jl cA' lv g1 (by omega) g3 g4 hl hL hn (by omega) (by omega)
        rw [k2, List.map_append] at hw
        cases r0 <;> exact hw
      · obtain ⟨p1, p2, p3, hck, hpn⟩ := LK_in hlk
        have hpn := hpn (by omega)
        unfold ckK at hck
        simp only [Bool.and_eq_true, decide_eq_true_eq] at hck
        obtain ⟨⟨w1, w2⟩, w3⟩ := hck
        refine callG (va_runIN (host := "CornerCurves") (b := ad bs ex h) (As := (st.take n).reverse.map (tv bs ex)) (rest := (st.drop (n + 1)).map (tv bs ex)) ⟨hx, hb, hml, hown, hts⟩ hM ⟨va_cnB n hts hgood hwo rfl rfl (hKN.2.2.2.1 _ (inN_nest w1)) (hts _ m2) ⟨m4, m5, hpn⟩ ⟨by show d + 1 ≤ R.frames; exact hRf, by show 8 + (mL a + 11) + 60 * d ≤ R.locals; have := mL_le a (by omega); omega⟩, w3, hts _ (inT_big w2)⟩ ⟨PcO_blind _ _ _ _ _ _ _ _, fun U hU hW => PcO_of (as := pR h :: (st.take n).reverse) hKN hbs hP hHs hA hS hU hW⟩ rfl hlen hl.1 hstk (lv_room (by rw [tv_cats]; exact hcat)) k1 ⟨by show cells + MC a ≤ R.cells; omega, by show slots + MS a ≤ R.slots; omega⟩) hS fun r0 S' zI' zL' H1 locs1 cA' hq0 g1 g2 g3 g4 => ?_
        have hw := hq0 H1 locs1 (cells + MC a) (slots + MS a) jl cA' lv g1 (by omega) g3 g4 hl hL hn (by omega) (by omega)
        rw [k2, List.map_append] at hw
        cases r0 <;> exact hw
