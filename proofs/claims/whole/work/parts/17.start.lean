/-! THE CLAIM OUT OF ONE WALK OF THE LAW'S BODY. Your part is whole_start (and what it stands on); all else here is the same for every law, but numbers. -/
def R_law : String := "CornerCurvesLaw"
def lw_P (b : Addr) (xs : List Int32) (args : Array Value) (s : State) : Prop := args = #[.ref b] ∧ s.IntsAt b xs ∧ xs.length ≤ 3072 ∧ (Jvm.Cond.and given_1 narrow_1).before args s = true
def lw_Q (_ : Array Value) (s : State) (o : Outcome) (t : State) : Prop := o = .returned (some (.int 1)) ∧ Framed s o t [] 600000 7302249
def lw_Z (below : List Frame) (a : Array Value) (s : State) : State → Prop := fun t => ∃ o, t.status = .running ∧ Ended t below o ∧ lw_Q a s o t
/-- the law's own end, with 1 on the stack, nothing written that was there before, its room as the claim has it -/
theorem lw_ret {p : Program} {l : Launch} {e : Env} {s : State} {m : MethodId} {below : List Frame} {meth : Method} {c : Code} {b : Nat} (hx : p.tables.exec = Jvm.exec) (hb : c.code = code) (hr : meth.sig.returnType = ret) (hlocks : meth.locks = false) {pc : Nat} {H : Heap} {ls : Array Slot} (hdg : decode code pc = .ok (.ireturn, 1)) : W p l e room_1 s m #[Value.ref b] below meth c H [] 600000 7302249 (lw_Z below #[Value.ref b] s) (F0 m pc ls [.int 1]) := by
  intro T hT X
  obtain ⟨fs, hret, hrun, hended, hW, hframe⟩ := X.leave (v := some (.int 1)) (hlocks := hlocks) (fun h => by rw [hr] at h; cases h)
  have hmeth' : T.vm.method? m = some meth := X.method'
  refine ⟨T.setFrames fs, ?_, .returned (some (.int 1)), hrun, hended, rfl, ⟨_, rfl⟩, hW, hframe⟩
  jvm_step X.here [X.here.top, hx, hb, hdg, hmeth', hr, ret, narrow_b1]
  (try refine ⟨rfl, ?_⟩); (try refine ⟨rfl, ?_⟩)
  first | (intro acts; rw [hret _ acts rfl rfl rfl]) | rw [hret _ _ rfl rfl rfl]
  exact Steps.refl _
/-- what holds at the law's entry: the machine, the code, the tables' words (any of lw_tbl by 'hts w (by decide +kernel)'), the script of L ints xs at the cell b, what the Statement gives of the start (any of its parts by flat_of_before) -/
def lw_At (p : Program) (s : State) (m : MethodId) (meth : Method) (c : Code) (b L : Nat) (xs : Nat → Int32) : Prop :=
  p.tables.exec = Jvm.exec ∧ c.code = code ∧ meth.sig.returnType = ret ∧ c.maxLocals = 4 ∧ s.vm.findClass R_law = some m.cls ∧ (∀ w ∈ lw_tbl, w.before #[Value.ref b] s = true) ∧ va_X b L xs s s.heap ∧ b < s.heap.size ∧ meth.locks = false ∧ (Jvm.Cond.and given_1 narrow_1).before #[Value.ref b] s = true
/-! THE LAW'S ENTRY: from the pure machine's run to the walk that the claim wants -/
def xLies (i : Int) : Int := if i = 0 then 10 else if i = 1 then 20 else if i = 2 then 31 else 10
def xWeighs (i : Int) : Int := if i = 2 then 30 else 11
def xMeets (i : Int) : Int := if i = 0 then 12 else if i = 1 then 21 else if i = 2 then 21 else 40
def xOf (L : Nat) (xs : Nat → Int32) : PX := fun e => if e = 0 then (L, fun i => (xs i.toNat).toInt) else if e = 1 then (4, xLies) else if e = 2 then (4, xWeighs) else (4, xMeets)
def S00 : SS := ([], fun _ _ => none)
def lawQ : PQ := fun r _ _ _ => r = some (pI 1)
theorem inst_any : ∀ a, a < 11 → LNs.any (fun e => e.2.2.1 == a) = true := by decide +kernel
theorem inst_ok (a : Nat) (ha : a < 11) : Cond.instantiable (rN a) (NF a) ∈ BIG := by
  obtain ⟨⟨e1, e2, e3, e4, e5, e6⟩, he, hq⟩ := List.any_eq_true.mp (inst_any a ha)
  rw [beq_iff_eq] at hq
  have := List.all_eq_true.mp LNs_ok _ he
  unfold ckN at this
  dsimp only at hq
  subst hq
  simp only [Bool.and_eq_true, decide_eq_true_eq] at this
  exact inT_big this.1.1.2
theorem nest_in {w : Cond} (h : w ∈ nestW) : w ∈ lw_tbl := (List.mem_filter.mp h).1
theorem big_in {w : Cond} (h : w ∈ BIG) : w ∈ lw_tbl := (List.mem_filter.mp h).1
theorem over_in : ∀ kd, kd = 15 ∨ kd = 16 ∨ kd = 17 → Cond.arrayOver (.object (arN kd)) ∈ lw_tbl := by
  rintro kd (rfl | rfl | rfl)
  · exact List.mem_of_getElem? (i := 101) (by decide +kernel)
  · exact List.mem_of_getElem? (i := 103) (by decide +kernel)
  · exact List.mem_of_getElem? (i := 105) (by decide +kernel)
theorem static_T {s : State} {b : Nat} (hgv : (Jvm.Cond.and given_1 narrow_1).before #[Value.ref b] s = true) (hts : ∀ w ∈ lw_tbl, w.before #[Value.ref b] s = true) (n : String) (f : Int → Int) (v0 v1 v2 v3 : Int32)
    (h0 : (Cond.eq (.elem (.static "CornerCurves" n "[I") (.int 0)) (.int v0)).before #[Value.ref b] s = true) (h1 : (Cond.eq (.elem (.static "CornerCurves" n "[I") (.int 1)) (.int v1)).before #[Value.ref b] s = true)
    (h2 : (Cond.eq (.elem (.static "CornerCurves" n "[I") (.int 2)) (.int v2)).before #[Value.ref b] s = true) (h3 : (Cond.eq (.elem (.static "CornerCurves" n "[I") (.int 3)) (.int v3)).before #[Value.ref b] s = true)
    (hl : (Cond.eq (.length (.static "CornerCurves" n "[I")) (.int 4)).before #[Value.ref b] s = true) (ha : (Cond.arrayOf (.static "CornerCurves" n "[I") .int).before #[Value.ref b] s = true) (hs : Cond.laysStatic "CornerCurves" n "[I" ∈ lw_tbl)
    (g0 : i3 (f 0) = v0) (g1 : i3 (f 1) = v1) (g2 : i3 (f 2) = v2) (g3 : i3 (f 3) = v3) :
    ∃ t : Nat, va_T .int t 4 (fun j => .int (i3 (f (j : Int)))) (fun q => s.heap.size ≤ q) s s.heap ∧ va_Z "CornerCurves" n "[I" (.ref t) (fun q => s.heap.size ≤ q) s s.heap := by
  have hA : ∀ a : Nat, a < s.heap.size → ¬ (fun q => s.heap.size ≤ q) a := fun a h => Nat.not_le.mpr h
  obtain ⟨t, e, hT⟩ := va_Tof (N := 4) (f := fun j => .int (i3 (f (j : Int)))) (A := fun q => s.heap.size ≤ q) (by decide) ha (va_eqt hl) (fun j hj => by
    match j, hj with
    | 0, _ => exact (va_eqt h0).trans (by rw [← g0]; rfl)
    | 1, _ => exact (va_eqt h1).trans (by rw [← g1]; rfl)
    | 2, _ => exact (va_eqt h2).trans (by rw [← g2]; rfl)
    | 3, _ => exact (va_eqt h3).trans (by rw [← g3]; rfl)
    | n + 4, h => exact absurd h (by omega)) hA
  exact ⟨t, hT, va_Zref (hts _ hs) (hts _ (big_in (LM_in (f := 77) (by decide)).2.1)) e hA⟩
set_option maxHeartbeats 8000000 in
set_option maxRecDepth 100000 in
theorem start_of_pure {p : Program} {e : Env} {s : State} {m : MethodId} {below : List Frame} {meth : Method} {c : Code} (l : Launch) {b L : Nat} {xs : Nat → Int32} (hL : L ≤ 3072) (C0 : lw_At p s m meth c b L xs)
    (hpure : Run (xOf L xs) 40 (MCode 214) 0 (entryL 4 [pR xbase]) [] S00 (fun _ _ => 0) (fun _ _ => 0) 221 7302249 lawQ) :
    W p l e room_1 s m #[Value.ref b] below meth c s.heap [] 0 0 (lw_Z below #[Value.ref b] s) (entryFrame m ([Value.ref b] : List Value).toArray 4) := by
  obtain ⟨hx, hb, hr, hml, hown, hts, hX, hbl, hlocks, hgv⟩ := id C0
  have htsB : ∀ w ∈ BIG, w.before #[Value.ref b] s = true := fun w hw => hts w (big_in hw)
  have hs := flat_of_before _ hgv
  have hA : ∀ a : Nat, a < s.heap.size → ¬ (fun q => s.heap.size ≤ q) a := fun a h => Nat.not_le.mpr h
  have hcls : ∀ k, ∃ q : ClassId × (Nat → Nat), k < 11 → u_Kn s (rN k) (TF k) (NF k) q.1 q.2 := fun k => by
    by_cases hk : k < 11
    · obtain ⟨cC, iS, h⟩ := u_known (ws := BIG) (C := rN k) (T := TF k) (N := NF k) (n := NF k) htsB (lay_ok k hk) (htsB _ (inst_ok k hk))
      exact ⟨(cC, iS), fun _ => h⟩
    · exact ⟨(default, fun _ => 0), fun z => absurd z hk⟩
  obtain ⟨D2, hD2⟩ := Classical.skolem.mp hcls
  obtain ⟨t1, hT1, hZ1⟩ := static_T hgv hts "LIES_BODY" xLies 10 20 31 10 (hs _ (by decide +kernel)) (hs _ (by decide +kernel)) (hs _ (by decide +kernel)) (hs _ (by decide +kernel)) (hs _ (by decide +kernel)) (hs _ (by decide +kernel)) (List.mem_of_getElem? (i := 865) (by decide +kernel)) rfl rfl rfl rfl
  obtain ⟨t2, hT2, hZ2⟩ := static_T hgv hts "WEIGHS_BODY" xWeighs 11 11 30 11 (hs _ (by decide +kernel)) (hs _ (by decide +kernel)) (hs _ (by decide +kernel)) (hs _ (by decide +kernel)) (hs _ (by decide +kernel)) (hs _ (by decide +kernel)) (List.mem_of_getElem? (i := 867) (by decide +kernel)) rfl rfl rfl rfl
  obtain ⟨t3, hT3, hZ3⟩ := static_T hgv hts "MEETS_BODY" xMeets 12 21 21 40 (hs _ (by decide +kernel)) (hs _ (by decide +kernel)) (hs _ (by decide +kernel)) (hs _ (by decide +kernel)) (hs _ (by decide +kernel)) (hs _ (by decide +kernel)) (List.mem_of_getElem? (i := 869) (by decide +kernel)) rfl rfl rfl rfl
  have hex : ∃ ex : Nat → Nat, ex 0 = b ∧ ex 1 = t1 ∧ ex 2 = t2 ∧ ex 3 = t3 := ⟨fun n => if n = 0 then b else if n = 1 then t1 else if n = 2 then t2 else t3, rfl, rfl, rfl, rfl⟩
  obtain ⟨ex, x0, x1, x2, x3⟩ := hex
  have hKN : KNO (fun k => (D2 k).1, fun k => (D2 k).2) ex (xOf L xs) s.heap.size s := by
    refine ⟨⟨fun k q hk => ?_, fun k q h => by simp at h⟩, fun e he => ?_, ?_, fun w hw => va_Nw.of (nest_onT w hw) (hts w (nest_in hw)), fun kd hk => va_AO.of (hts _ (over_in kd hk))⟩
    · have hlt : k < 11 := (List.getElem?_eq_some_iff.mp hk).1
      rw [vwCl_at k hlt] at hk
      cases hk
      exact hD2 k hlt
    · match e, he with
      | 0, _ =>
        rw [x0]
        obtain ⟨scr, q1, q2, q3, q4, q5⟩ := hX
        refine ⟨scr, q1, q2, q3, Nat.le_of_eq q4.symm, by rw [q4]; rfl, fun j hj => ?_, hA b hbl⟩
        rw [q5 j hj]
        show _ = some (Value.int (i3 ((xs (j : Int).toNat).toInt)))
        rw [i3_toI]; rfl
      | 1, _ => rw [x1]; exact hT1
      | 2, _ => rw [x2]; exact hT2
      | 3, _ => rw [x3]; exact hT3
      | n + 4, h => exact absurd h (by omega)
    · rintro a (rfl | rfl | rfl)
      · rw [x1]; exact hZ1
      · rw [x2]; exact hZ2
      · rw [x3]; exact hZ3
  have hlv := lv_entry ([.ref b]) (n := 4) (Nat.le_of_ble_eq_true rfl)
  rw [lg_entry_eq]
  generalize (lg_sl ([.ref b]) ++ List.replicate (4 - (lg_sl ([.ref b])).length) Slot.unset).toArray = jl at hlv ⊢
  have etv : [pR xbase].map (tv s.heap.size ex) = [Value.ref b] := by
    show [Value.ref (ad s.heap.size ex xbase)] = _
    rw [ad_ge (Nat.lt_irrefl _), Nat.sub_self, x0]
  have hLR := entry_LR s.heap.size ex 4 [pR xbase]
  rw [etv] at hLR
  have hP0 : va_P (fun k => (D2 k).1, fun k => (D2 k).2) vwCl (wlO s.heap.size ex (fun _ => default) S00 (fun _ _ => 0) (fun _ _ => 0)) s.heap := fun k q h => by
    rw [wlO_get] at h; simp [S00] at h
  have key := hpure (SPO l (fun k => (D2 k).1, fun k => (D2 k).2) s.heap.size ex 214 p e room_1 s m #[Value.ref b] below meth c 221 (lw_Z below #[Value.ref b] s))
    (sound_step (fun f' as S zI zL Q hf h => sound_all 40 f' as S zI zL Q hf h) (by decide) hx (hb.trans rfl) (hml.trans rfl) hown htsB (fun q => absurd q (by decide)) hKN (Nat.le_refl _) (by decide) (by decide) (by decide) ?_)
    s.heap [] 0 0 jl (fun _ => default) _ hP0 rfl (fun i kd n h => by simp [S00] at h) va_S.rf hlv hLR rfl (by decide) (by decide)
  · have hpc : (pcss.getD 214 []).getD 0 0 = 0 := pc_zero 214 (by decide)
    rw [hpc] at key
    exact key
  · intro r S zI zL H locs cells slots jl q i hq hW hS hc hsl hdec hret
    have hq : r = some (pI 1) := hq
    subst hq
    refine va_forget hS.2.2 (W.widen (k := 600000) (n := 7302249) (by subst hc; decide) hsl ?_)
    unfold retI at hret
    split at hret
    · rename_i x hxx
      cases hxx
      exact lw_ret hx hb hr hlocks hdec
    · rename_i hxx; cases hxx
    · rename_i hxx; cases hxx
    · rename_i hxx; cases hxx
    · exact hret.elim
