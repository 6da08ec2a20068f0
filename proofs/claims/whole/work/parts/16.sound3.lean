/-! SOUNDNESS, the end: every method by its depth; the law's entry -/
def flatA (as : List PV) : List (Option PV) := as.flatMap (fun v => match v with | .inr (.inl _) => [some v, none] | _ => [some v])
theorem flat_len (bs : Nat) (ex : Nat → Nat) : ∀ as : List PV, (lg_sl (as.map (tv bs ex))).length = (flatA as).length
  | [] => rfl
  | v :: r => by
    have ih := flat_len bs ex r
    unfold lg_sl flatA at ih ⊢
    rw [List.map_cons, List.flatMap_cons, List.flatMap_cons, List.length_append, List.length_append, ih, tv_cat]
    congr 1
    rcases v with a | a | a <;> rfl
theorem flat_args (bs : Nat) (ex : Nat → Nat) : ∀ (as : List PV) (k i : Nat) (v : PV), (flatA as)[i]? = some (some v) → (k + i, tv bs ex v) ∈ lv_args k (as.map (tv bs ex))
  | [], _, _, _, h => by simp [flatA] at h
  | u :: r, k, i, v, h => by
    unfold flatA at h
    rw [List.flatMap_cons] at h
    rw [List.map_cons]
    unfold lv_args
    rw [tv_cat]
    have key : ∀ (w : Nat), (if pcat u = 2 then k + 2 else k + 1) = k + w → ∀ j, i = w + j → (flatA r)[j]? = some (some v) → (k + i, tv bs ex v) ∈ (k, tv bs ex u) :: lv_args (if pcat u = 2 then k + 2 else k + 1) (r.map (tv bs ex)) := fun w hw j hj hr => by
      refine List.mem_cons_of_mem _ ?_
      have := flat_args bs ex r (k + w) j v hr
      rw [hw, hj, ← Nat.add_assoc]; exact this
    rcases u with a | a | a
    · cases i with
      | zero => cases h; exact List.mem_cons_self
      | succ i => exact key 1 rfl i (by omega) h
    · cases i with
      | zero => cases h; exact List.mem_cons_self
      | succ i =>
        cases i with
        | zero => cases h
        | succ i => exact key 2 rfl i (by omega) h
    · cases i with
      | zero => cases h; exact List.mem_cons_self
      | succ i => exact key 1 rfl i (by omega) h
theorem entryL_eq (n : Nat) (as : List PV) : entryL n as = flatA as ++ List.replicate (n - (flatA as).length) none := rfl
theorem entry_LR (bs : Nat) (ex : Nat → Nat) (n : Nat) (as : List PV) : LRO bs ex (entryL n as) (lv_args 0 (as.map (tv bs ex))) := by
  intro i v h
  rw [entryL_eq] at h
  rcases Nat.lt_or_ge i (flatA as).length with q | q
  · rw [List.getElem?_append_left q] at h
    have := flat_args bs ex as 0 i v h
    rwa [Nat.zero_add] at this
  · rw [List.getElem?_append_right q, List.getElem?_replicate] at h
    split at h <;> simp at h
theorem entry_fit {n : Nat} {as : List PV} (h : (entryL n as).length = n) : (flatA as).length ≤ n := by
  rw [entryL_eq, List.length_append, List.length_replicate] at h
  omega
theorem pc_zero : ∀ f, f < 215 → (pcss.getD f []).getD 0 0 = 0 := by decide +kernel
theorem own_ok : ∀ f, f < 215 → f ≠ 214 → rN (RC f) = (mY f).cls := by decide +kernel
set_option maxHeartbeats 4000000 in
theorem sound_all {l : Launch} {D : va_G} {bs : Nat} {ex : Nat → Nat} {X : PX} : ∀ (d f : Nat) (as : List PV) (S : SS) (zI zL : ZM) (Q : PQ), f < 214 → wpM X d f as S zI zL Q → Met l (mY f) (wsO f) (rmO d f) (PcO D bs ex X as S zI zL) (QcO D bs ex (MC f) Q) (MC f) (MS f) (fun q => bs ≤ q)
  | 0, _, _, _, _, _, _, _, h => h.elim
  | d + 1, f, as, S, zI, zL, Q, hf, h => by
    obtain ⟨m1, m2, m3, m4, m5⟩ := LM_in hf
    refine va_MetF (cc := mB f) (maxL := mL f) (ret := mR f) m3 rfl ?_
    intro p e s m args below meth c s₁ B hml hv
    obtain ⟨rfl, hKN, hbs, cA, hP, hz, hA⟩ := hv
    have hx := B.exec
    have hb := B.bytes
    have hr := B.returns
    have hts0 := atoms_spec (ws := wsO f) B.pre
    have hts : ∀ w ∈ BIG, w.before (as.map (tv bs ex)).toArray s = true := fun w hw => hts0 w (List.mem_cons_of_mem _ hw)
    have hown : s.vm.findClass (rN (RC f)) = some m.cls := by rw [own_ok f (by omega) (by omega)]; exact findClass_of_methodNamed B.named
    have hlocks := B.notSynchronized
    have hin : (mY f).name = "<init>" → meth.name = "<init>" := fun q => (name_of_methodNamed B.named B.method).1.trans q
    have hlv := lv_entry (as.map (tv bs ex)) (n := mL f) (by rw [flat_len]; exact entry_fit h.1)
    rw [lg_entry_eq]
    generalize (lg_sl (as.map (tv bs ex)) ++ List.replicate (mL f - (lg_sl (as.map (tv bs ex))).length) Slot.unset).toArray = jl at hlv ⊢
    have hpc : (pcss.getD f []).getD 0 0 = 0 := pc_zero f (by omega)
    have key := h.2 (SPO l D bs ex f p e (rmO (d + 1) f) s m (as.map (tv bs ex)).toArray below meth c (MC f) (MQ below (QcO D bs ex (MC f) Q) (as.map (tv bs ex)).toArray s (MC f) (MS f) (fun q => bs ≤ q)))
      (sound_step (sound_all d) (by omega) hx hb hml hown hts hin hKN hbs (Nat.le_refl _) (Nat.le_refl _) (by show 60 * d + 60 ≤ 60 * (d + 1); omega) ?_) s.heap [] 0 0 jl cA _ hP (by omega) hA va_S.rf hlv (entry_LR bs ex (mL f) as) h.1 (Nat.zero_add _) (by show 0 + MS f ≤ MS f; omega)
    · rw [hpc] at key; exact key
    · intro r S zI zL H locs cells slots jl q i hq hW hS hc hs hdec hret
      obtain ⟨cA, hP, hz, hA⟩ := hW
      subst hc
      refine W_sz fun hsz => ?_
      have hlow := low_sz hP (Nat.le_trans hbs hS.1)
      have hH : H.size = bs + S.1.length := by omega
      refine W.widen (k := MC f) (n := MS f) (Nat.le_refl _) hs ?_
      have hfin : ∀ (v : Option Value), v = r.map (tv bs ex) → ∀ t : State, t.heap = H → s.WarmedH t.vm → QcO D bs ex (MC f) Q (as.map (tv bs ex)).toArray s (.returned v) t := fun v hv t ht hw => ⟨⟨r, S, zI, zL, by rw [hv], hq, cA, by rw [ht]; exact hP, by rw [ht]; exact hH, hA.moved hw.alike⟩, by rw [ht]; omega, hS.F ht⟩
      unfold retI at hret
      split at hret
      · rename_i x
        rcases hret with h1 | ⟨h1, h2⟩
        · exact W.iret hx hb (by rw [hr, h1]) (hfin _ rfl) hS.2.2 hdec
        · exact W.zret hx hb (by rw [hr, h1]) (by rcases h2 with rfl | rfl <;> rfl) (hfin _ rfl) hS.2.2 hdec
      · exact W.lret hx hb (by rw [hr, hret]) (hfin _ rfl) hS.2.2 hdec
      · rename_i x
        obtain ⟨t, h1, h2⟩ := hret
        refine W.aret hx hb (by rw [hr, h1]) ?_ (Or.inr ⟨_, rfl⟩) (hfin _ rfl) hS.2.2 hdec
        cases t <;> first | exact Or.inl ⟨_, rfl⟩ | exact Or.inr ⟨_, rfl⟩ | cases h2
      · exact W.vret hx hb (by rw [hr, hret]) (hfin _ rfl) hS.2.2 hdec
      · exact hret.elim
