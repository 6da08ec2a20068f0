/-! THE REFERENCE: the amount -/
theorem gl_some {G : Int → Option Int} {p v q : Int} : (gl G p v q).isSome = true ↔ ((G q).isSome = true ∨ q = p) := by
  unfold gl
  by_cases e : q = p
  · rw [if_pos e]; simp [e]
  · rw [if_neg e]; simp [e]
theorem loadT_some {I J V : Int → Int} : ∀ (m : Nat) (k : Int) (G : Int → Option Int) (q : Int), (loadT I J V m k G q).isSome = true ↔ ((G q).isSome = true ∨ ∃ t, k ≤ t ∧ t < k + m ∧ q = I t * 9 + J t)
  | 0, k, G, q => ⟨fun h => Or.inl h, fun h => by
      rcases h with h | ⟨t, t0, t1, -⟩
      · exact h
      · omega⟩
  | m + 1, k, G, q => by
    have ih := loadT_some (V := V) (I := I) (J := J) m (k + 1) (gl G (I k * 9 + J k) (V k)) q
    show (loadT I J V m (k + 1) (gl G (I k * 9 + J k) (V k)) q).isSome = true ↔ _
    rw [ih, gl_some]
    constructor
    · rintro ((h | h) | ⟨t, t0, t1, t2⟩)
      · exact Or.inl h
      · exact Or.inr ⟨k, Int.le_refl _, by omega, h⟩
      · exact Or.inr ⟨t, by omega, by omega, t2⟩
    · rintro (h | ⟨t, t0, t1, t2⟩)
      · exact Or.inl (Or.inl h)
      · by_cases e : t = k
        · rw [e] at t2; exact Or.inl (Or.inr t2)
        · exact Or.inr ⟨t, by omega, by omega, t2⟩
theorem loadG_some {n : Int} {I J V : Int → Int} (hn : 0 ≤ n) (q : Int) : (loadG n I J V q).isSome = true ↔ ∃ t, 0 ≤ t ∧ t < n ∧ q = I t * 9 + J t := by
  unfold loadG
  rw [loadT_some]
  constructor
  · rintro (h | ⟨t, t0, t1, t2⟩)
    · cases h
    · exact ⟨t, t0, by omega, t2⟩
  · rintro ⟨t, t0, t1, t2⟩
    exact Or.inr ⟨t, t0, by omega, t2⟩
theorem beyT_iff {p : Int} {I J : Int → Int} : ∀ (m : Nat) (k : Int), beyT p I J m k = true ↔ ∃ t, k ≤ t ∧ t < k + m ∧ (8 < p / 9 + I t ∨ 8 < p % 9 + J t)
  | 0, k => ⟨fun h => (by cases h), fun ⟨t, t0, t1, _⟩ => (by omega)⟩
  | m + 1, k => by
    show (bey1 p (I k) (J k) || beyT p I J m (k + 1)) = true ↔ _
    rw [Bool.or_eq_true, bey1_t, beyT_iff m (k + 1)]
    constructor
    · rintro (h | ⟨t, t0, t1, t2⟩)
      · exact ⟨k, Int.le_refl _, by omega, h⟩
      · exact ⟨t, by omega, by omega, t2⟩
    · rintro ⟨t, t0, t1, t2⟩
      by_cases e : t = k
      · rw [e] at t2; exact Or.inl t2
      · exact Or.inr ⟨t, by omega, by omega, t2⟩
theorem beyO_iff {G1 : Int → Option Int} {n : Int} {I J : Int → Int} : ∀ (m : Nat) (p : Int), beyO G1 n I J m p = true ↔ ∃ q, p ≤ q ∧ q < p + m ∧ (G1 q).isSome = true ∧ beyT q I J n.toNat 0 = true
  | 0, p => ⟨fun h => (by cases h), fun ⟨t, t0, t1, _⟩ => (by omega)⟩
  | m + 1, p => by
    show ((match G1 p with | none => false | some _ => beyT p I J n.toNat 0) || beyO G1 n I J m (p + 1)) = true ↔ _
    rw [Bool.or_eq_true, beyO_iff m (p + 1)]
    constructor
    · rintro (h | ⟨t, t0, t1, t2⟩)
      · refine ⟨p, Int.le_refl _, by omega, ?_⟩
        cases hg : G1 p with
        | none => rw [hg] at h; cases h
        | some v => rw [hg] at h; exact ⟨rfl, h⟩
      · exact ⟨t, by omega, by omega, t2⟩
    · rintro ⟨t, t0, t1, t2, t3⟩
      by_cases e : t = p
      · left
        rw [e] at t2 t3
        cases hg : G1 p with
        | none => rw [hg] at t2; cases t2
        | some v => exact t3
      · exact Or.inr ⟨t, by omega, by omega, t2, t3⟩
theorem sumB_iff {n : Int} {I J V : Int → Int} (hR : FR n I J V) {n2 : Int} {I2 J2 : Int → Int} (hn2 : 0 ≤ n2) : sumB (loadG n I J V) n2 I2 J2 = true ↔ ∃ s t, (0 ≤ s ∧ s < n) ∧ (0 ≤ t ∧ t < n2) ∧ (8 < I s + I2 t ∨ 8 < J s + J2 t) := by
  unfold sumB
  rw [beyO_iff]
  constructor
  · rintro ⟨q, q0, q1, q2, q3⟩
    obtain ⟨s, s0, s1, s2⟩ := (loadG_some hR.1 q).mp q2
    obtain ⟨t, t0, t1, t2⟩ := (beyT_iff _ _).mp q3
    obtain ⟨r1, r2, r3, r4, -⟩ := hR.2.2 s s0 s1
    exact ⟨s, t, ⟨s0, s1⟩, ⟨t0, by omega⟩, by omega⟩
  · rintro ⟨s, t, ⟨s0, s1⟩, ⟨t0, t1⟩, h⟩
    obtain ⟨r1, r2, r3, r4, -⟩ := hR.2.2 s s0 s1
    exact ⟨I s * 9 + J s, by omega, by omega, (loadG_some hR.1 _).mpr ⟨s, s0, s1, rfl⟩, (beyT_iff _ _).mpr ⟨t, t0, by omega, by omega⟩⟩
def amA (a : FA) (f g t : Int) : Int := gI a f (t / gN a g) + gI a g (t % gN a g)
def amB (a : FA) (f g t : Int) : Int := gJ a f (t / gN a g) + gJ a g (t % gN a g)
def amR (a : FA) (f g : Int) : Int := areaS (fun p => (sumOf a f g p).isSome) 81 (fun p => p / 9) (fun p => p % 9)
def amX (a : FA) (f g : Int) : Bool := sumB (loadG (gN a f) (gI a f) (gJ a f) (gV a f)) (gN a g) (gI a g) (gJ a g)
def AMa (a : FA) : Prop := ∀ f g, (0 ≤ f ∧ f < a.1) → (0 ≤ g ∧ g < a.1) → 0 < gN a f → 0 < gN a g → amX a f g = false → ringOK (gN a f * gN a g) (amA a f g) (amB a f g) (amR a f g)
theorem amR_b (a : FA) (f g : Int) : -20000 ≤ amR a f g ∧ amR a f g ≤ 20000 := by
  obtain ⟨⟨a0, a1⟩, a2⟩ := selW_in (p := fun p => (sumOf a f g p).isSome) (n := 81) (I := fun p => p / 9) (J := fun p => p % 9) (fun t t0 t1 => by show 0 ≤ t / 9 ∧ t / 9 ≤ 8 ∧ 0 ≤ t % 9 ∧ t % 9 ≤ 8; omega) 81 0 (0, fun _ => 0, fun _ => 0) (Int.le_refl _) (by omega) (Int.le_refl _) (Int.le_refl _) (fun t t0 t1 => absurd t1 (by show ¬ t < 0; omega))
  exact areaR_b ⟨a0, by unfold selS; exact a1, a2⟩
theorem areaF_b {n : Int} {I J V : Int → Int} (hR : FR n I J V) : -20000 ≤ areaR n I J ∧ areaR n I J ≤ 20000 := areaR_b ⟨hR.1, by have := hR.2.1; omega, fun t t0 t1 => by have := hR.2.2 t t0 t1; omega⟩
def sAmt (a : FA) (f g : Int) : Int := if ¬ ((0 ≤ f ∧ f < a.1) ∧ (0 ≤ g ∧ g < a.1)) then -2 else if gN a f = 0 ∨ gN a g = 0 then -3 else if amX a f g = true then -3 else (amR a f g - areaR (gN a f) (gI a f) (gJ a f) - areaR (gN a g) (gI a g) (gJ a g)).tdiv 2
theorem dm_n {s t n : Int} (h0 : 0 ≤ t) (h1 : t < n) : (s * n + t) / n = s ∧ (s * n + t) % n = t := by
  constructor
  · rw [Int.add_comm, Int.add_mul_ediv_right _ _ (by omega), Int.ediv_eq_zero_of_lt h0 h1, Int.zero_add]
  · rw [Int.add_comm, Int.add_mul_emod_self_right, Int.emod_eq_of_lt h0 h1]
theorem RM_up {z : ZM} {m u v : Int} {A B : Int → Int} (h : RM z (m + 1) (updF A m u) (updF B m v)) (ha : A m = u) (hb : B m = v) : RM z (m + 1) A B := by
  refine ⟨h.1, fun t t0 t1 => ?_⟩
  obtain ⟨h1, h2⟩ := h.2 t t0 t1
  unfold updF at h1 h2
  by_cases e : t = m
  · rw [if_pos e] at h1 h2; rw [e] at h1 h2 ⊢; exact ⟨h1.trans ha.symm, h2.trans hb.symm⟩
  · rw [if_neg e] at h1 h2; exact ⟨h1, h2⟩
theorem sn_b {s t n m : Int} (hs : 0 ≤ s ∧ s < m) (ht : 0 ≤ t ∧ t ≤ n) (hm : m ≤ 40) (hn : n ≤ 40) : 0 ≤ s * n + t ∧ s * n + t ≤ 1600 := by
  have h1 := Int.mul_nonneg hs.1 (show 0 ≤ n by omega)
  have h2 := Int.mul_le_mul (show s ≤ 39 by omega) hn (by omega) (by decide)
  omega
abbrev by8 (a : FA) (f g s t : Int) : Prop := 8 < gI a f s + gI a g t ∨ 8 < gJ a f s + gJ a g t
set_option maxHeartbeats 4000000 in
theorem y_amount {X : PX} {d : Nat} {S : SS} {zI zL : ZM} {Q : PQ} (hS : Sk S) {a : FA} (hA : MF zI a) (hk : FOK a) (hrn : RGa a) (ham : AMa a) {f g : Int} (hf : inI f) (hg : inI g) (hQ : ∀ z, frR z zI → Q (some (pI (sAmt a f g))) S z zL) : wpM X (d + 4) fM_amount [pR 184, pI f, pI g] S zI zL Q := by
  have hX := MF_x hA hk
  have hF0 := hA.1
  obtain ⟨kb, hkf⟩ := hk
  have hget : ∀ f, 0 ≤ f → f < zI 184 0 → (FM zI f (gN a f) (gI a f) (gJ a f) (gV a f) ∧ zI 185 f = gK a f) ∧ FR (gN a f) (gI a f) (gJ a f) (gV a f) ∧ FS (gN a f) (gI a f) (gJ a f) ∧ (0 ≤ gK a f ∧ gK a f ≤ 3) ∧ (gK a f = 0 → gN a f ≤ 12) := fun f f0 f1 => ⟨hA.2 f f0 (by omega), hkf f f0 (by omega)⟩
  unfold sAmt at hQ
  have main : (0 ≤ f ∧ f < a.1) → (0 ≤ g ∧ g < a.1) → 0 < gN a f → 0 < gN a g → ∀ s : Int, s ≤ gN a f → 0 ≤ s → ∀ (b us : Int) (y5 : Option PV) (z : ZM), us = 40 * f + s → frR z zI → RM z (s * gN a g) (amA a f g) (amB a f g) → ((b = 1 ∧ ∃ s' t', (0 ≤ s' ∧ s' < gN a f) ∧ (0 ≤ t' ∧ t' < gN a g) ∧ by8 a f g s' t') ∨ (b = 0 ∧ ∀ s' t', (0 ≤ s' ∧ s' < gN a f) → (0 ≤ t' ∧ t' < gN a g) → s' < s → ¬ by8 a f g s' t')) → Run X (d + 3) c_M_amount 31 [some (pR 184), some (pI f), some (pI g), some (pI b), some (pI us), y5] [] S z zL 0 0 Q := by
    intro ef eg pf pg
    obtain ⟨⟨hT, -⟩, hR, hS2, -⟩ := hget f ef.1 (by omega)
    obtain ⟨⟨hT2, -⟩, hR2, hS22, -⟩ := hget g eg.1 (by omega)
    have nf40 := hR.2.1
    have ng40 := hR2.2.1
    have e4f := hT.1
    have e4g := hT2.1
    refine loop_up _ (gN a f) (fun s hs ih s0 b us y5 z hus hz hM hb => ?_)
    have inner : s < gN a f → ∀ t : Int, t ≤ gN a g → 0 ≤ t → ∀ (b ut : Int) (z : ZM), ut = 40 * g + t → frR z zI → RM z (s * gN a g + t) (amA a f g) (amB a f g) → ((b = 1 ∧ ∃ s' t', (0 ≤ s' ∧ s' < gN a f) ∧ (0 ≤ t' ∧ t' < gN a g) ∧ by8 a f g s' t') ∨ (b = 0 ∧ ∀ s' t', (0 ≤ s' ∧ s' < gN a f) → (0 ≤ t' ∧ t' < gN a g) → (s' < s ∨ (s' = s ∧ t' < t)) → ¬ by8 a f g s' t')) → Run X (d + 3) c_M_amount 45 [some (pR 184), some (pI f), some (pI g), some (pI b), some (pI us), some (pI ut)] [] S z zL 0 0 Q := by
      intro hsn
      refine loop_up _ (gN a g) (fun t ht iht t0 b ut z hut hz hM hb => ?_)
      have e4g' : z 186 g = gN a g := by rw [hz.1 186 (by decide) (by decide) (by decide)]; exact e4g
      refine r_iload rfl rfl ?_
      refine r_bipush rfl ?_
      refine r_iload_n rfl rfl ?_
      refine r_imul rfl ?_
      refine r_aload_n rfl rfl ?_
      refine r_getR rfl (so184 hS) (sr184_2 hS) ?_
      refine r_iload_n rfl rfl ?_
      refine r_iald rfl (sw186 hS) (by omega) (by omega) ?_
      rw [e4g']
      refine r_iadd rfl ?_
      refine r_icmp_ge rfl (by unfold inI; omega) (by unfold inI; omega) (fun h54 => ?_) (fun h54 => ?_)
      · skip
        refine r_iinc rfl rfl ?_
        refine r_goto rfl ?_
        refine ih hsn (by omega) b (us + 1) _ z (by omega) hz (by rw [Int.add_mul, Int.one_mul, ← show t = gN a g by omega]; rw [show t = gN a g by omega] at hM ⊢; exact hM) ?_
        rcases hb with k | ⟨k1, k2⟩
        · exact Or.inl k
        · exact Or.inr ⟨k1, fun s' t' q1 q2 q3 => k2 s' t' q1 q2 (by omega)⟩
      · skip
        have htn : t < gN a g := by omega
        obtain ⟨tf1, tf2, -⟩ := (FM_frR hT hz).2 s s0 hsn
        obtain ⟨tg1, tg2, -⟩ := (FM_frR hT2 hz).2 t t0 htn
        rw [← hus] at tf1 tf2
        rw [← hut] at tg1 tg2
        obtain ⟨i1, i2, i3, i4, -⟩ := hR.2.2 s s0 hsn
        obtain ⟨i5, i6, i7, i8, -⟩ := hR2.2.2 t t0 htn
        have snb := sn_b (m := gN a f) (n := gN a g) ⟨s0, hsn⟩ ⟨t0, ht⟩ nf40 ng40
        obtain ⟨dm1, dm2⟩ := dm_n (s := s) (n := gN a g) t0 htn
        have eA : amA a f g (s * gN a g + t) = gI a f s + gI a g t := by unfold amA; rw [dm1, dm2]
        have eB : amB a f g (s * gN a g + t) = gJ a f s + gJ a g t := by unfold amB; rw [dm1, dm2]
        refine r_aload_n rfl rfl ?_
        refine r_aload_n rfl rfl ?_
        refine r_getR rfl (so184 hS) (sr184_3 hS) ?_
        refine r_iload rfl rfl ?_
        refine r_iald rfl (sw187 hS) (by omega) (by omega) ?_
        rw [tf1]
        refine r_aload_n rfl rfl ?_
        refine r_getR rfl (so184 hS) (sr184_3 hS) ?_
        refine r_iload rfl rfl ?_
        refine r_iald rfl (sw187 hS) (by omega) (by omega) ?_
        rw [tg1]
        refine r_iadd rfl ?_
        refine r_aload_n rfl rfl ?_
        refine r_getR rfl (so184 hS) (sr184_4 hS) ?_
        refine r_iload rfl rfl ?_
        refine r_iald rfl (sw188 hS) (by omega) (by omega) ?_
        rw [tf2]
        refine r_aload_n rfl rfl ?_
        refine r_getR rfl (so184 hS) (sr184_4 hS) ?_
        refine r_iload rfl rfl ?_
        refine r_iald rfl (sw188 hS) (by omega) (by omega) ?_
        rw [tg2]
        refine r_iadd rfl ?_
        refine r_cV3 rfl (so184 hS) (Nat.le_of_ble_eq_true rfl) rfl rfl (x_ringAdd hS hM (by omega) (by omega) (fun z3 hz3 hM3 => ?_))
        have tf1' : z3 187 us = gI a f s := by rw [hz3.1 187 (by decide) (by decide) (by decide)]; exact tf1
        have tf2' : z3 188 us = gJ a f s := by rw [hz3.1 188 (by decide) (by decide) (by decide)]; exact tf2
        have tg1' : z3 187 ut = gI a g t := by rw [hz3.1 187 (by decide) (by decide) (by decide)]; exact tg1
        have tg2' : z3 188 ut = gJ a g t := by rw [hz3.1 188 (by decide) (by decide) (by decide)]; exact tg2
        have nxt : ∀ b : Int, ((b = 1 ∧ ∃ s' t', (0 ≤ s' ∧ s' < gN a f) ∧ (0 ≤ t' ∧ t' < gN a g) ∧ by8 a f g s' t') ∨ (b = 0 ∧ ∀ s' t', (0 ≤ s' ∧ s' < gN a f) → (0 ≤ t' ∧ t' < gN a g) → (s' < s ∨ (s' = s ∧ t' < t + 1)) → ¬ by8 a f g s' t')) → Run X (d + 3) c_M_amount 45 [some (pR 184), some (pI f), some (pI g), some (pI b), some (pI us), some (pI (ut + 1))] [] S z3 zL 0 0 Q := fun b hb => iht htn (by omega) b (ut + 1) z3 (by omega) (frR_t hz hz3) (by rw [← Int.add_assoc]; exact RM_up hM3 eA eB) hb
        have cs : ∀ s' t', (s' < s ∨ (s' = s ∧ t' < t + 1)) → (s' < s ∨ (s' = s ∧ t' < t)) ∨ (s' = s ∧ t' = t) := fun s' t' k => by omega
        rcases hb with ⟨hb1, hbe⟩ | ⟨hb0, hba⟩
        · subst hb1
          refine r_iload_n rfl rfl ?_
          refine r_if_ne rfl (by unfold inI; omega) (fun _ => ?_) (fun k => absurd k (by decide))
          refine r_iconst rfl ?_
          refine r_goto rfl ?_
          refine r_istore_n rfl (Nat.le_of_ble_eq_true rfl) ?_
          refine r_iinc rfl rfl ?_
          refine r_goto rfl ?_
          exact nxt 1 (Or.inl ⟨rfl, hbe⟩)
        subst hb0
        refine r_iload_n rfl rfl ?_
        refine r_if_ne rfl (by unfold inI; omega) (fun h76 => ?_) (fun h76 => ?_)
        · skip
          refine r_iconst rfl ?_
          refine r_goto rfl ?_
          refine r_istore_n rfl (Nat.le_of_ble_eq_true rfl) ?_
          refine r_iinc rfl rfl ?_
          refine r_goto rfl ?_
          exact absurd rfl h76
        · skip
          refine r_aload_n rfl rfl ?_
          refine r_getR rfl (so184 hS) (sr184_3 hS) ?_
          refine r_iload rfl rfl ?_
          refine r_iald rfl (sw187 hS) (by omega) (by omega) ?_
          rw [tf1']
          refine r_aload_n rfl rfl ?_
          refine r_getR rfl (so184 hS) (sr184_3 hS) ?_
          refine r_iload rfl rfl ?_
          refine r_iald rfl (sw187 hS) (by omega) (by omega) ?_
          rw [tg1']
          refine r_iadd rfl ?_
          refine r_bipush rfl ?_
          refine r_icmp_gt rfl (by unfold inI; omega) (by unfold inI; omega) (fun h87 => ?_) (fun h87 => ?_)
          · skip
            refine r_iconst rfl ?_
            refine r_goto rfl ?_
            refine r_istore_n rfl (Nat.le_of_ble_eq_true rfl) ?_
            refine r_iinc rfl rfl ?_
            refine r_goto rfl ?_
            exact nxt 1 (Or.inl ⟨rfl, s, t, ⟨s0, hsn⟩, ⟨t0, htn⟩, Or.inl (by omega)⟩)
          · skip
            refine r_aload_n rfl rfl ?_
            refine r_getR rfl (so184 hS) (sr184_4 hS) ?_
            refine r_iload rfl rfl ?_
            refine r_iald rfl (sw188 hS) (by omega) (by omega) ?_
            rw [tf2']
            refine r_aload_n rfl rfl ?_
            refine r_getR rfl (so184 hS) (sr184_4 hS) ?_
            refine r_iload rfl rfl ?_
            refine r_iald rfl (sw188 hS) (by omega) (by omega) ?_
            rw [tg2']
            refine r_iadd rfl ?_
            refine r_bipush rfl ?_
            refine r_icmp_le rfl (by unfold inI; omega) (by unfold inI; omega) (fun h98 => ?_) (fun h98 => ?_)
            · skip
              refine r_iconst rfl ?_
              refine r_istore_n rfl (Nat.le_of_ble_eq_true rfl) ?_
              refine r_iinc rfl rfl ?_
              refine r_goto rfl ?_
              refine nxt 0 (Or.inr ⟨rfl, fun s' t' q1 q2 q3 => ?_⟩)
              rcases cs s' t' q3 with k | ⟨k1, k2⟩
              · exact hba s' t' q1 q2 k
              · rw [k1, k2]; intro k; unfold by8 at k; omega
            · skip
              refine r_iconst rfl ?_
              refine r_goto rfl ?_
              refine r_istore_n rfl (Nat.le_of_ble_eq_true rfl) ?_
              refine r_iinc rfl rfl ?_
              refine r_goto rfl ?_
              exact nxt 1 (Or.inl ⟨rfl, s, t, ⟨s0, hsn⟩, ⟨t0, htn⟩, Or.inr (by omega)⟩)
    have e4f' : z 186 f = gN a f := by rw [hz.1 186 (by decide) (by decide) (by decide)]; exact e4f
    refine r_iload rfl rfl ?_
    refine r_bipush rfl ?_
    refine r_iload_n rfl rfl ?_
    refine r_imul rfl ?_
    refine r_aload_n rfl rfl ?_
    refine r_getR rfl (so184 hS) (sr184_2 hS) ?_
    refine r_iload_n rfl rfl ?_
    refine r_iald rfl (sw186 hS) (by omega) (by omega) ?_
    rw [e4f']
    refine r_iadd rfl ?_
    refine r_icmp_ge rfl (by unfold inI; omega) (by unfold inI; omega) (fun h40 => ?_) (fun h40 => ?_)
    · skip
      have es : s = gN a f := by omega
      subst es
      have sb := sumB_iff hR (n2 := gN a g) (I2 := gI a g) (J2 := gJ a g) hR2.1
      have ab1 := areaF_b hR
      have ab2 := areaF_b hR2
      have ab3 := amR_b a f g
      rw [if_neg (fun k => k ⟨ef, eg⟩), if_neg (by omega)] at hQ
      rcases hb with ⟨hb1, hbe⟩ | ⟨hb0, hba⟩
      · subst hb1
        have ex : amX a f g = true := sb.mpr hbe
        rw [if_pos ex] at hQ
        refine r_iload_n rfl rfl ?_
        refine r_if_eq rfl (by unfold inI; omega) (fun k => absurd k (by decide)) (fun _ => ?_)
        refine r_bipush rfl ?_
        refine r_iret rfl ?_
        exact hQ z hz
      · subst hb0
        have ex : amX a f g = false := by
          cases hh : amX a f g with
          | false => rfl
          | true =>
            obtain ⟨s', t', q1, q2, q3⟩ := sb.mp hh
            exact absurd q3 (hba s' t' q1 q2 q1.2)
        rw [if_neg (by rw [ex]; decide)] at hQ
        refine r_iload_n rfl rfl ?_
        refine r_if_eq rfl (by unfold inI; omega) (fun _ => ?_) (fun k => absurd rfl k)
        refine r_aload_n rfl rfl ?_
        refine r_cV1 rfl (so184 hS) (Nat.le_of_ble_eq_true rfl) rfl rfl (x_ringArea (d := d + 1) hS hM.1 (ringOK_RM hM (ham f g ef eg pf pg ex)) ?_)
        refine r_istore rfl (Nat.le_of_ble_eq_true rfl) ?_
        refine r_iload rfl rfl ?_
        refine r_aload_n rfl rfl ?_
        refine r_iload_n rfl rfl ?_
        refine r_cV2 rfl (so184 hS) (Nat.le_of_ble_eq_true rfl) rfl rfl (x_areaOf hS (by omega) (FM_frR hT hz) hR (hrn f ef.1 ef.2).1 (fun z5 hz5 => ?_))
        refine r_isub rfl ?_
        refine r_aload_n rfl rfl ?_
        refine r_iload_n rfl rfl ?_
        refine r_cV2 rfl (so184 hS) (Nat.le_of_ble_eq_true rfl) rfl rfl (x_areaOf hS (by omega) (FM_frR (FM_frR hT2 hz) hz5) hR2 (hrn g eg.1 eg.2).1 (fun z6 hz6 => ?_))
        refine r_isub rfl ?_
        refine r_iconst rfl ?_
        refine r_idiv rfl (by unfold inI; omega) (by unfold inI; omega) (by omega) ?_
        refine r_iret rfl ?_
        exact hQ z6 (frR_t (frR_t hz hz5) hz6)
    · skip
      refine r_bipush rfl ?_
      refine r_iload_n rfl rfl ?_
      refine r_imul rfl ?_
      refine r_istore rfl (Nat.le_of_ble_eq_true rfl) ?_
      exact inner (by omega) 0 (by omega) (Int.le_refl _) b (40 * g) z (by omega) hz (by rw [Int.add_zero]; exact hM) (by
        rcases hb with k | ⟨k1, k2⟩
        · exact Or.inl k
        · exact Or.inr ⟨k1, fun s' t' q1 q2 q3 => k2 s' t' q1 q2 (by omega)⟩)
  refine wp_in (C := c_M_amount) (ls := [some (pR 184), some (pI f), some (pI g), none, none, none]) rfl rfl rfl rfl rfl ?_
  refine r_aload_n rfl rfl ?_
  refine r_iload_n rfl rfl ?_
  refine r_cV2 rfl (so184 hS) (Nat.le_of_ble_eq_true rfl) rfl rfl (x_is hS hf hX (fun p q => ?_) (fun p0 => ?_))
  · skip
    refine r_if_eq1 rfl ?_
    refine r_aload_n rfl rfl ?_
    refine r_iload_n rfl rfl ?_
    refine r_cV2 rfl (so184 hS) (Nat.le_of_ble_eq_true rfl) rfl rfl (x_is hS hg hX (fun p2 q2 => ?_) (fun p0 => ?_))
    · skip
      refine r_if_ne1 rfl ?_
      have ef : 0 ≤ f ∧ f < a.1 := ⟨p, by omega⟩
      have eg : 0 ≤ g ∧ g < a.1 := ⟨p2, by omega⟩
      obtain ⟨⟨hT, -⟩, hR, hS2, -⟩ := hget f p q
      obtain ⟨⟨hT2, -⟩, hR2, hS22, -⟩ := hget g p2 q2
      have e4f := hT.1
      have e4g := hT2.1
      have nf0 := hR.1
      have ng0 := hR2.1
      have nf40 := hR.2.1
      have ng40 := hR2.2.1
      refine r_aload_n rfl rfl ?_
      refine r_getR rfl (so184 hS) (sr184_2 hS) ?_
      refine r_iload_n rfl rfl ?_
      refine r_iald rfl (sw186 hS) (by omega) (by omega) ?_
      rw [e4f]
      refine r_if_eq rfl (by unfold inI; omega) (fun h14 => ?_) (fun h14 => ?_)
      · skip
        refine r_bipush rfl ?_
        refine r_iret rfl ?_
        rw [if_neg (fun k => k ⟨ef, eg⟩), if_pos (Or.inl h14)] at hQ; exact hQ zI (frR_r _)
      · skip
        refine r_aload_n rfl rfl ?_
        refine r_getR rfl (so184 hS) (sr184_2 hS) ?_
        refine r_iload_n rfl rfl ?_
        refine r_iald rfl (sw186 hS) (by omega) (by omega) ?_
        rw [e4g]
        refine r_if_ne rfl (by unfold inI; omega) (fun h19 => ?_) (fun h19 => ?_)
        · skip
          refine r_aload_n rfl rfl ?_
          refine r_iconst rfl ?_
          refine r_putI rfl (so184 hS) ?_
          refine r_iconst rfl ?_
          refine r_istore_n rfl (Nat.le_of_ble_eq_true rfl) ?_
          refine r_bipush rfl ?_
          refine r_iload_n rfl rfl ?_
          refine r_imul rfl ?_
          refine r_istore rfl (Nat.le_of_ble_eq_true rfl) ?_
          exact main ef eg (by omega) (by omega) 0 nf0 (Int.le_refl _) 0 (40 * f) none _ (by omega) (frR_0 (frR_r _)) (by rw [Int.zero_mul]; exact RM_0) (Or.inr ⟨rfl, fun s' t' q1 q2 q3 => absurd q3 (by omega)⟩)
        · skip
          refine r_bipush rfl ?_
          refine r_iret rfl ?_
          rw [if_neg (fun k => k ⟨ef, eg⟩), if_pos (Or.inr (by omega))] at hQ; exact hQ zI (frR_r _)
    · skip
      refine r_if_ne0 rfl ?_
      refine r_bipush rfl ?_
      refine r_iret rfl ?_
      rw [if_pos (fun k => p0 ⟨k.2.1, by omega⟩)] at hQ; exact hQ zI (frR_r _)
  · skip
    refine r_if_eq0 rfl ?_
    refine r_bipush rfl ?_
    refine r_iret rfl ?_
    rw [if_pos (fun k => p0 ⟨k.1.1, by omega⟩)] at hQ; exact hQ zI (frR_r _)
