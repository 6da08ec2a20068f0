/-! THE CLASS: forms of whole numbers by a prime -/
theorem td_abs {x q : Int} : (x.tdiv q).natAbs ≤ x.natAbs := by rw [Int.natAbs_tdiv]; exact Nat.div_le_self _ _
theorem c_timesIn {X : PX} {d : Nat} {S : SS} {zI zL : ZM} {Q : PQ} {q v : Int} (hq : 2 ≤ q ∧ q ≤ 7) (hv : inI v) (hQ : Q (some (pI (tim q v))) S zI zL) : wpM X (d + 1) fC_timesIn [pL v, pI q] S zI zL Q := by
  have l0 : inL 0 := by unfold inL; omega
  have lp : ∀ t : Int, t ≤ 64 → 0 ≤ t → ∀ x : Int, x.natAbs ≤ 2147483648 → tmT q (64 - t).toNat x t = tim q v → Run X d c_C_timesIn 4 [some (pL v), none, some (pI q), some (pI t), some (pL x), none] [] S zI zL 0 0 Q := by
    refine loop_up _ 64 (fun t ht ih t0 x hx hs => ?_)
    have hr := Int.natAbs_tmod x q
    have hr2 : (x.natAbs % q.natAbs) < q.natAbs := Nat.mod_lt _ (by omega)
    have ha := td_abs (x := x) (q := q)
    refine r_iload_n rfl rfl ?_
    refine r_bipush rfl ?_
    refine r_icmp_ge rfl (by unfold inI; omega) (by unfold inI; omega) (fun h6 => ?_) (fun h6 => ?_)
    · skip
      refine r_iload_n rfl rfl ?_
      refine r_iret rfl ?_
      rw [show (64 - t).toNat = 0 by omega] at hs
      unfold tmT at hs
      rw [hs]; exact hQ
    · skip
      refine r_iload_n rfl rfl ?_
      refine r_if_eq rfl (by unfold inI; omega) (fun h8 => ?_) (fun h8 => ?_)
      · skip
        refine r_iload_n rfl rfl ?_
        refine r_iret rfl ?_
        exact absurd h8 (by omega)
      · skip
        refine r_lload rfl rfl ?_
        refine r_iload_n rfl rfl ?_
        refine r_i2l rfl (by unfold inI; omega) ?_
        refine r_lrem rfl (by unfold inL; omega) (by unfold inL; omega) (by omega) ?_
        refine r_lconst rfl ?_
        refine r_l_ne rfl rfl (by unfold inL; omega) l0 (fun h15 => ?_) (fun h15 => ?_)
        · skip
          refine r_iload_n rfl rfl ?_
          refine r_iret rfl ?_
          rw [show (64 - t).toNat = (64 - (t + 1)).toNat + 1 by omega] at hs
          unfold tmT at hs
          rw [if_neg h15] at hs
          rw [hs]; exact hQ
        · skip
          refine r_lload rfl rfl ?_
          refine r_iload_n rfl rfl ?_
          refine r_i2l rfl (by unfold inI; omega) ?_
          refine r_ldiv rfl (by unfold inL; omega) (by unfold inL; omega) (by omega) ?_
          refine r_lstore rfl (Nat.le_of_ble_eq_true rfl) ?_
          refine r_iinc rfl rfl ?_
          refine r_goto rfl ?_
          refine ih (by omega) (by omega) _ (by omega) ?_
          rw [show (64 - t).toNat = (64 - (t + 1)).toNat + 1 by omega] at hs
          unfold tmT at hs
          rw [if_pos h15] at hs
          exact hs
  refine wp_in (C := c_C_timesIn) (ls := [some (pL v), none, some (pI q), none, none, none]) rfl rfl rfl rfl rfl ?_
  refine r_iconst rfl ?_
  refine r_istore_n rfl (Nat.le_of_ble_eq_true rfl) ?_
  refine r_lload_n rfl rfl ?_
  refine r_lstore rfl (Nat.le_of_ble_eq_true rfl) ?_
  exact lp 0 (by decide) (Int.le_refl _) v (by unfold inI at hv; omega) rfl
def hgT (it : Int → Int) (c q : Int) : Nat → Int → (Int → Option Int) → (Int → Option Int)
  | 0, _, G => G
  | m + 1, p, G => hgT it c q m (p + 1) (if it (c + p) = 0 then G else gl G (p39 p) (tim q (it (c + p))))
def hidG (it : Int → Int) (c q : Int) : Int → Option Int := hgT it c q 9 0 (fun _ => none)
theorem hgT_s {it : Int → Int} {c q p : Int} {G : Int → Option Int} (h : p < 9) : hgT it c q (9 - p).toNat p G = hgT it c q (9 - (p + 1)).toNat (p + 1) (if it (c + p) = 0 then G else gl G (p39 p) (tim q (it (c + p)))) := by
  rw [show (9 - p).toNat = (9 - (p + 1)).toNat + 1 by omega]; rfl
theorem hgT_e {it : Int → Int} {c q p : Int} {G : Int → Option Int} (h : 9 ≤ p) : hgT it c q (9 - p).toNat p G = G := by rw [show (9 - p).toNat = 0 by omega]; rfl
theorem hgT_no {it : Int → Int} {c q x : Int} : ∀ (m : Nat) (k : Int) (G : Int → Option Int), (∀ t, k ≤ t → t < k + m → x ≠ p39 t) → hgT it c q m k G x = G x
  | 0, _, _, _ => rfl
  | m + 1, k, G, h => by
    show hgT it c q m (k + 1) (if it (c + k) = 0 then G else gl G (p39 k) (tim q (it (c + k)))) x = G x
    rw [hgT_no m (k + 1) _ (fun t t0 t1 => h t (by omega) (by omega))]
    split
    · rfl
    · unfold gl; rw [if_neg (h k (Int.le_refl _) (by omega))]
theorem hgT_at {it : Int → Int} {c q t : Int} : ∀ (m : Nat) (k : Int) (G : Int → Option Int), 0 ≤ k → k + m ≤ 9 → k ≤ t → t < k + m → G (p39 t) = none → hgT it c q m k G (p39 t) = if it (c + t) = 0 then none else some (tim q (it (c + t)))
  | 0, k, _, _, _, h1, h2, _ => by omega
  | m + 1, k, G, k0, k9, h1, h2, hG => by
    show hgT it c q m (k + 1) (if it (c + k) = 0 then G else gl G (p39 k) (tim q (it (c + k)))) (p39 t) = _
    by_cases e : t = k
    · rw [e, hgT_no m (k + 1) _ (fun x x0 x1 => by unfold p39; omega)]
      rw [e] at hG
      split
      · exact hG
      · unfold gl; rw [if_pos rfl, hG]
    · refine hgT_at m (k + 1) _ (by omega) (by omega) (by omega) (by omega) ?_
      split
      · exact hG
      · unfold gl; rw [if_neg (by unfold p39; omega)]; exact hG
theorem hid_at {it : Int → Int} {c q t : Int} (h0 : 0 ≤ t) (h1 : t < 9) : hidG it c q (p39 t) = if it (c + t) = 0 then none else some (tim q (it (c + t))) := hgT_at 9 0 _ (Int.le_refl _) (by decide) h0 h1 rfl
theorem hid_no {it : Int → Int} {c q x : Int} (h : ∀ t, 0 ≤ t → t < 9 → x ≠ p39 t) : hidG it c q x = none := hgT_no 9 0 _ h
theorem DR_hid {it : Int → Int} {c q : Int} : ∀ (m : Nat) (k : Int) (G : Int → Option Int), DR G 64 → DR (hgT it c q m k G) 64
  | 0, _, _, h => h
  | m + 1, k, G, h => by
    refine DR_hid m (k + 1) _ ?_
    split
    · exact h
    · have := tim_b q (it (c + k)); exact DR_gl h (by omega)
def hst (it : Int → Int) (c q t : Int) (F : FV) : FV := if it (c + t) = 0 then F else apV F (t / 3) (t % 3) (tim q (it (c + t)))
theorem pour_s {it : Int → Int} {c q t : Int} (m : Nat) (F : FV) (h0 : 0 ≤ t) (h1 : t < 9) : pourT (hidG it c q) (m + 1) (p39 t) F = pourT (hidG it c q) m (p39 t + 1) (hst it c q t F) := by
  show pourT (hidG it c q) m (p39 t + 1) (match hidG it c q (p39 t) with | none => F | some v => apV F (p39 t / 9) (p39 t % 9) v) = _
  obtain ⟨e1, e2, -, -⟩ := p39_a (p := t) ⟨h0, h1⟩
  rw [hid_at h0 h1, e1, e2]
  unfold hst
  by_cases e : it (c + t) = 0
  · rw [if_pos e, if_pos e]
  · rw [if_neg e, if_neg e]
theorem pour_k {G : Int → Option Int} : ∀ (j m : Nat) (p : Int) (F : FV), (∀ x, p ≤ x → x < p + j → G x = none) → pourT G (j + m) p F = pourT G m (p + j) F
  | 0, m, p, F, _ => by rw [Nat.zero_add]; show pourT G m p F = pourT G m (p + ((0 : Nat) : Int)) F; rw [show p + ((0 : Nat) : Int) = p by omega]
  | j + 1, m, p, F, h => by
    rw [show j + 1 + m = (j + m) + 1 by omega]
    show pourT G (j + m) (p + 1) (match G p with | none => F | some v => apV F (p / 9) (p % 9) v) = _
    rw [h p (Int.le_refl _) (by omega)]
    show pourT G (j + m) (p + 1) F = _
    rw [pour_k j m (p + 1) F (fun x x0 x1 => h x (by omega) (by omega)), show p + 1 + (j : Int) = p + ((j + 1 : Nat) : Int) by omega]
theorem hid_gap {it : Int → Int} {c q x : Int} (h : 3 ≤ x % 9 ∨ 27 ≤ x) : hidG it c q x = none := hid_no (fun t t0 t1 => by unfold p39; omega)
theorem hid_pour (it : Int → Int) (c q : Int) : pourV (hidG it c q) = hidV it c q := by
  have e1 : pourV (hidG it c q) = pourT (hidG it c q) 81 (p39 0) F0V := rfl
  rw [e1, pour_s 80 _ (by decide) (by decide)]
  rw [show p39 0 + 1 = p39 1 from rfl, pour_s 79 _ (by decide) (by decide)]
  rw [show p39 1 + 1 = p39 2 from rfl, pour_s 78 _ (by decide) (by decide)]
  rw [show p39 2 + 1 = 3 from rfl, show (78 : Nat) = 6 + 72 from rfl, pour_k 6 72 3 _ (fun x x0 x1 => hid_gap (by omega))]
  rw [show (3 : Int) + ((6 : Nat) : Int) = p39 3 from rfl, pour_s 71 _ (by decide) (by decide)]
  rw [show p39 3 + 1 = p39 4 from rfl, pour_s 70 _ (by decide) (by decide)]
  rw [show p39 4 + 1 = p39 5 from rfl, pour_s 69 _ (by decide) (by decide)]
  rw [show p39 5 + 1 = 12 from rfl, show (69 : Nat) = 6 + 63 from rfl, pour_k 6 63 12 _ (fun x x0 x1 => hid_gap (by omega))]
  rw [show (12 : Int) + ((6 : Nat) : Int) = p39 6 from rfl, pour_s 62 _ (by decide) (by decide)]
  rw [show p39 6 + 1 = p39 7 from rfl, pour_s 61 _ (by decide) (by decide)]
  rw [show p39 7 + 1 = p39 8 from rfl, pour_s 60 _ (by decide) (by decide)]
  rw [show p39 8 + 1 = 21 from rfl, show (60 : Nat) = 60 + 0 from rfl, pour_k 60 0 21 _ (fun x x0 x1 => hid_gap (by omega))]
  rfl
theorem fit_any {G : Int → Option Int} : ∀ (m : Nat) (p n : Int) (N : Int → Int), (∀ x v, G x = some v → -200 ≤ v ∧ v ≤ 200) → (∀ x, p ≤ x → x ≤ p + m → N x ≤ 40) → n ≤ N p → (∀ x, p ≤ x → x < p + m → N x ≤ N (x + 1)) → (∀ x v, p ≤ x → x < p + m → G x = some v → N x + 1 ≤ N (x + 1)) → fitT G m p n = true
  | 0, p, n, N, _, h40, hn, _, _ => by
    show decide (n ≤ 40) = true
    have := h40 p (Int.le_refl _) (by omega)
    simp; omega
  | m + 1, p, n, N, hv, h40, hn, h1, h2 => by
    have go : ∀ n', n' ≤ N (p + 1) → fitT G m (p + 1) n' = true := fun n' hn' => fit_any m (p + 1) n' N hv (fun x x0 x1 => h40 x (by omega) (by omega)) hn' (fun x x0 x1 => h1 x (by omega) (by omega)) (fun x v x0 x1 hx => h2 x v (by omega) (by omega) hx)
    unfold fitT
    cases hG : G p with
    | none => exact go n (by have := h1 p (Int.le_refl _) (by omega); omega)
    | some v =>
      have hb := hv p v hG
      show (if -200 ≤ v ∧ v ≤ 200 then fitT G m (p + 1) (n + 1) else false) = true
      rw [if_pos hb]
      exact go (n + 1) (by have := h2 p v (Int.le_refl _) (by omega) hG; omega)
theorem hid_fit (it : Int → Int) (c q : Int) : fitG (hidG it c q) = true := by
  refine fit_any 81 0 0 (fun x => x / 9 * 3 + min (x % 9) 3) (fun x v hx => ?_) (fun x x0 x1 => by show x / 9 * 3 + min (x % 9) 3 ≤ 40; omega) (by decide) (fun x x0 x1 => by show x / 9 * 3 + min (x % 9) 3 ≤ (x + 1) / 9 * 3 + min ((x + 1) % 9) 3; omega) (fun x v x0 x1 hx => ?_)
  · have := DR_hid (it := it) (c := c) (q := q) 9 0 (fun _ => none) (fun _ _ h => by cases h) x v hx
    omega
  · have h3 : x % 9 < 3 := by
      rcases (show x % 9 < 3 ∨ 3 ≤ x % 9 by omega) with e | e
      · exact e
      · rw [hid_gap (Or.inl e)] at hx; cases hx
    show x / 9 * 3 + min (x % 9) 3 + 1 ≤ (x + 1) / 9 * 3 + min ((x + 1) % 9) 3
    omega
abbrev hidX (k so q : Int) : Prop := ¬ ((q = 2 ∨ q = 3 ∨ q = 5 ∨ q = 7) ∧ (0 ≤ k ∧ k ≤ 3) ∧ (0 ≤ so ∧ so ≤ 2))
def sHid (a : FA) (s : SA) (k so c q : Int) : Int := if hidX k so q then -2 else if s.1 k < 0 then -11 else if s.1 k ≠ so then -13 else if ¬ (0 ≤ c ∧ c + 9 ≤ s.2.1 k) then -12 else if a.1 = 10 then -4 else a.1
def nHid (a : FA) (s : SA) (k so c q : Int) : FA := if hidX k so q then a else if s.1 k < 0 then a else if s.1 k ≠ so then a else if ¬ (0 ≤ c ∧ c + 9 ≤ s.2.1 k) then a else if a.1 = 10 then a else addFA a 3 (hidV (s.2.2 k) c q)
theorem y_hide2 {X : PX} {d : Nat} {S : SS} {zI zL : ZM} {Q : PQ} (hS : Sk S) {a : FA} (hA : MF zI a) (hk : FOK a) {s : SA} (hs : MSh zI s) (hok : SOK s) {k so c q : Int} (hk2 : inI k) (hso : inI so) (hc : inI c) (hq : inI q) (hQ : ∀ z, frX z zI → MF z (nHid a s k so c q) → Q (some (pI (sHid a s k so c q))) S z zL) : wpM X (d + 2) fM_hide [pR 184, pI k, pI so, pI c, pI q] S zI zL Q := by
  unfold sHid nHid at hQ
  refine y_hide hS hA hk hs hok hk2 hso hc hq (fun q0 => ?_) (fun q1 q2 q3 q4 => ?_) (fun q1 q2 q3 q4 q5 => ?_) (fun q1 q2 q3 q4 q5 => ?_) (fun q1 q2 => ?_) (fun q1 q2 z f1 f2 f3 => ?_)
  · have x1 : hidX k so q := q0
    simp only [if_pos x1] at hQ; exact hQ zI (frX_r _) hA
  · have x1 : ¬ hidX k so q := fun k => k ⟨q1, q2, q3⟩
    simp only [if_neg x1, if_pos q4] at hQ; exact hQ zI (frX_r _) hA
  · have x1 : ¬ hidX k so q := fun k => k ⟨q1, q2, q3⟩
    have x2 : ¬ (s.1 k < 0) := by omega
    have x3 : s.1 k ≠ so := q5
    simp only [if_neg x1, if_neg x2, if_pos x3] at hQ; exact hQ zI (frX_r _) hA
  · have x1 : ¬ hidX k so q := fun k => k ⟨q1, q2, q3⟩
    have x2 : ¬ (s.1 k < 0) := by omega
    have x3 : ¬ (s.1 k ≠ so) := fun k => k q4
    have x4 : ¬ (0 ≤ c ∧ c + 9 ≤ s.2.1 k) := q5
    simp only [if_neg x1, if_neg x2, if_neg x3, if_pos x4] at hQ; exact hQ zI (frX_r _) hA
  · have x1 : ¬ hidX k so q := fun k => k ⟨q1.1, q1.2.1, q1.2.2.1⟩
    have x2 : ¬ (s.1 k < 0) := by have := q1.2.2.2.1; have := q1.2.2.1; omega
    have x3 : ¬ (s.1 k ≠ so) := fun k => k q1.2.2.2.1
    have x4 : ¬ ¬ (0 ≤ c ∧ c + 9 ≤ s.2.1 k) := fun k => k q1.2.2.2.2
    simp only [if_neg x1, if_neg x2, if_neg x3, if_neg x4, if_pos q2] at hQ; exact hQ zI (frX_r _) hA
  · have x1 : ¬ hidX k so q := fun k => k ⟨q1.1, q1.2.1, q1.2.2.1⟩
    have x2 : ¬ (s.1 k < 0) := by have := q1.2.2.2.1; have := q1.2.2.1; omega
    have x3 : ¬ (s.1 k ≠ so) := fun k => k q1.2.2.2.1
    have x4 : ¬ ¬ (0 ≤ c ∧ c + 9 ≤ s.2.1 k) := fun k => k q1.2.2.2.2
    have x5 : ¬ a.1 = 10 := by omega
    simp only [if_neg x1, if_neg x2, if_neg x3, if_neg x4, if_neg x5] at hQ; exact hQ z f1 f2
set_option maxHeartbeats 2000000 in
theorem c_hide {X : PX} {d : Nat} {S : SS} {zI zL : ZM} {Q : PQ} (hS : Sk S) {a : FA} (hA : CF S zI zL a) (hk : FOK a) {s : SA} (hs : CSh zI zL s) (hok : SOK s) {k so c q : Int} (hk2 : inI k) (hso : inI so) (hc : inI c) (hq : inI q) (hQ : ∀ z, frVa z zI → CF S z zL (nHid a s k so c q) → FOK (nHid a s k so c q) → Q (some (pI (sHid a s k so c q))) S z zL) : wpM X (d + 5) fC_hide [pR 0, pI k, pI so, pI c, pI q] S zI zL Q := by
  have hA0 := hA
  obtain ⟨⟨cF0, cF14, cF75⟩, cFf⟩ := hA
  have k10 := hk.1.2
  have k00' := hk.1.1
  unfold sHid nHid at hQ
  obtain ⟨hD9, hD11⟩ := c_draft hS
  have main : (q = 2 ∨ q = 3 ∨ q = 5 ∨ q = 7) → 0 ≤ k → k < 4 → (0 ≤ c ∧ c + 9 ≤ s.2.1 k) → a.1 < 10 → (∀ z, frVa z zI → CF S z zL (addFA a 3 (hidV (s.2.2 k) c q)) → FOK (addFA a 3 (hidV (s.2.2 k) c q)) → Q (some (pI a.1)) S z zL) → ∀ t : Int, t ≤ 9 → 0 ≤ t → ∀ (z : ZM) (G : Int → Option Int) (y7 : Option PV), frD2 z zI → DH z 9 G → DR G 64 → hgT (s.2.2 k) c q (9 - t).toNat t G = hidG (s.2.2 k) c q → Run X (d + 4) c_C_hide 53 [some (pR 0), some (pI k), some (pI so), some (pI c), some (pI q), some (pR (176 + 2 * k.toNat)), some (pI t), y7, none] [] S z zL 0 0 Q := by
    intro hpr k0 k4 hcc h10 hQ2
    obtain ⟨hsh, rS⟩ := c_S hS k0 k4
    obtain ⟨hso7, hsr, hs0⟩ := hsh
    obtain ⟨g1, g2, g3⟩ := hs k k0 (by omega)
    obtain ⟨b1, b2, b3⟩ := hok k k0 (by omega)
    refine loop_up _ 9 (fun t ht ih t0 z G y7 hz hDH hDR hg => ?_)
    have dv3 : t.tdiv 3 = t / 3 := Int.tdiv_eq_ediv_of_nonneg t0
    have mv3 : t.tmod 3 = t % 3 := Int.tmod_eq_emod_of_nonneg t0
    have l0 : inL 0 := by unfold inL; omega
    refine r_iload rfl rfl ?_
    refine r_bipush rfl ?_
    refine r_icmp_ge rfl (by unfold inI; omega) (by unfold inI; omega) (fun h55 => ?_) (fun h55 => ?_)
    · skip
      have eG : G = hidG (s.2.2 k) c q := by rw [← hg]; exact (hgT_e (by omega)).symm
      refine r_aload_n rfl rfl ?_
      refine r_aload_n rfl rfl ?_
      refine r_getR rfl (so0 hS) (sr0_5 hS) ?_
      refine r_iconst rfl ?_
      refine r_cV3 rfl (so0 hS) (Nat.le_of_ble_eq_true rfl) rfl rfl (c_openFrom hS (CF_D2 hA0 hk hz) hk h10 hD9 (Or.inl rfl) hDH (by rw [eG]; exact hid_fit _ _ _) (DR_mono hDR (by decide)) (fun z9 f9 hC9 hFR9 hFS9 => ?_))
      refine r_iret rfl ?_
      rw [eG, hid_pour] at hC9 hFR9 hFS9
      exact hQ2 z9 (frVa_t (frD2_V hz) f9) hC9 (FOK_add hk h10 hFR9 hFS9 (by decide) (fun k => absurd k (by decide)))
    · skip
      refine r_aload rfl rfl ?_
      refine r_getR rfl hso7 hs0 ?_
      refine r_iload_n rfl rfl ?_
      refine r_iload rfl rfl ?_
      refine r_iadd rfl ?_
      refine r_lald rfl hsr (by omega) (by omega) ?_
      rw [g3 (c + t) (by omega) (by omega)]
      have iit := b3 (c + t) (by omega) (by omega)
      refine r_lstore rfl (Nat.le_of_ble_eq_true rfl) ?_
      refine r_lload rfl rfl ?_
      refine r_lconst rfl ?_
      refine r_l_eq rfl rfl (by unfold inI at iit; unfold inL; omega) l0 (fun h66 => ?_) (fun h66 => ?_)
      · skip
        refine r_iinc rfl rfl ?_
        refine r_goto rfl ?_
        refine ih (by omega) (by omega) z G _ hz hDH hDR ?_
        rw [hgT_s (by omega), if_pos h66] at hg
        exact hg
      · skip
        refine r_aload_n rfl rfl ?_
        refine r_getR rfl (so0 hS) (sr0_5 hS) ?_
        refine r_iload rfl rfl ?_
        refine r_iconst rfl ?_
        refine r_idiv rfl (by unfold inI; omega) (by unfold inI; omega) (by decide) ?_
        refine r_iload rfl rfl ?_
        refine r_iconst rfl ?_
        refine r_irem rfl (by unfold inI; omega) (by unfold inI; omega) (by decide) ?_
        refine r_lload rfl rfl ?_
        refine r_iload rfl rfl ?_
        
        refine r_cS2 rfl (by decide) (Nat.le_of_ble_eq_true rfl) rfl rfl (c_timesIn (d := d + 3) (by omega) iit ?_)
        rw [dv3, mv3]
        have tb := tim_b q (s.2.2 k (c + t))
        have hbz := DH_b (p := p39 t) hDH hDR (by decide) (by unfold p39; omega) (by unfold p39; omega)
        have hp39 : t / 3 * 9 + t % 3 = p39 t := rfl
        refine r_cV4 rfl (so9 hS) (Nat.le_of_ble_eq_true rfl) rfl rfl (w_putLeast (d := d + 2) hD9 (by omega) (by omega) (by rw [hp39]; unfold inI; omega) (by unfold inI; omega) ?_)
        refine r_iinc rfl rfl ?_
        refine r_goto rfl ?_
        refine ih (by omega) (by omega) _ (gl G (p39 t) (tim q (s.2.2 k (c + t)))) _ (frD2_t hz (fun c a b => zput_row (by omega))) ?_ (DR_gl hDR (by omega)) ?_
        · rw [hp39]; exact DH_put hDH hDR (by decide) (by unfold p39; omega) (by unfold p39; omega) (by omega)
        · rw [hgT_s (by omega), if_neg h66] at hg
          exact hg
  refine wp_in (C := c_C_hide) (ls := [some (pR 0), some (pI k), some (pI so), some (pI c), some (pI q), none, none, none, none]) rfl rfl rfl rfl rfl ?_
  refine r_iload rfl rfl ?_
  refine r_cS1 rfl (by decide) (Nat.le_of_ble_eq_true rfl) rfl rfl (c_isPrime (d := d + 3) hq (fun hpr => ?_) (fun hpr => ?_))
  · skip
    refine r_if_eq1 rfl ?_
    refine r_iload_n rfl rfl ?_
    refine r_iconst rfl ?_
    refine r_iconst rfl ?_
    refine r_cS3 rfl (by decide) (Nat.le_of_ble_eq_true rfl) rfl rfl (c_within (d := d + 3) hk2 (by unfold inI; omega) (by unfold inI; omega) (fun k0 k1 => ?_) (fun pe => ?_))
    · skip
      refine r_if_eq1 rfl ?_
      refine r_iload_n rfl rfl ?_
      refine r_iconst rfl ?_
      refine r_iconst rfl ?_
      refine r_cS3 rfl (by decide) (Nat.le_of_ble_eq_true rfl) rfl rfl (c_within (d := d + 3) hso (by unfold inI; omega) (by unfold inI; omega) (fun s0 s1 => ?_) (fun pe => ?_))
      · skip
        refine r_if_ne1 rfl ?_
        obtain ⟨hsh, rS⟩ := c_S hS k0 (show k < 4 by omega)
        obtain ⟨hso7, hsr, hs0⟩ := hsh
        obtain ⟨g1, g2, g3⟩ := hs k k0 (by omega)
        obtain ⟨b1, b2, b3⟩ := hok k k0 (by omega)
        have x1 : ¬ hidX k so q := fun e => e ⟨hpr, ⟨k0, k1⟩, s0, s1⟩
        simp only [if_neg x1] at hQ
        refine r_aload_n rfl rfl ?_
        refine r_getR rfl (so0 hS) (sr0_2 hS) ?_
        refine r_iload_n rfl rfl ?_
        refine r_aald rfl (sw3 hS) (by decide) (by omega) (by omega) rS ?_
        refine r_astore rfl (Nat.le_of_ble_eq_true rfl) ?_
        refine r_aload rfl rfl ?_
        refine r_getI rfl hso7 ?_
        rw [g1]
        refine r_iconst rfl ?_
        refine r_icmp_ne rfl (by unfold inI; omega) (by unfold inI; omega) (fun h23 => ?_) (fun h23 => ?_)
        · skip
          refine r_aload rfl rfl ?_
          refine r_getI rfl hso7 ?_
          rw [g1]
          refine r_iload_n rfl rfl ?_
          refine r_icmp_eq rfl (by unfold inI; omega) hso (fun h29 => ?_) (fun h29 => ?_)
          · skip
            refine r_iload_n rfl rfl ?_
            refine r_if_lt rfl hc (fun h33 => ?_) (fun h33 => ?_)
            · skip
              refine r_bipush rfl ?_
              refine r_iret rfl ?_
              have x2 : ¬ (s.1 k < 0) := by omega
              have x3 : ¬ (s.1 k ≠ so) := fun e => e h29
              have x4 : ¬ (0 ≤ c ∧ c + 9 ≤ s.2.1 k) := by omega
              simp only [if_neg x2, if_neg x3, if_pos x4] at hQ
              exact hQ zI (frVa_r _) hA0 hk
            · skip
              refine r_iload_n rfl rfl ?_
              refine r_aload rfl rfl ?_
              refine r_getI rfl hso7 ?_
              rw [g2]
              refine r_bipush rfl ?_
              refine r_isub rfl ?_
              refine r_icmp_le rfl hc (by unfold inI; omega) (fun h39 => ?_) (fun h39 => ?_)
              · skip
                refine r_aload_n rfl rfl ?_
                refine r_getI rfl (so0 hS) ?_
                rw [cF0]
                refine r_bipush rfl ?_
                refine r_icmp_lt rfl (by unfold inI; omega) (by unfold inI; omega) (fun h45 => ?_) (fun h45 => ?_)
                · skip
                  refine r_aload_n rfl rfl ?_
                  refine r_getR rfl (so0 hS) (sr0_5 hS) ?_
                  refine r_cV1 rfl (so9 hS) (Nat.le_of_ble_eq_true rfl) rfl rfl (w_clear (d := d + 2) hD9 ?_)
                  refine r_iconst rfl ?_
                  refine r_istore rfl (Nat.le_of_ble_eq_true rfl) ?_
                  have x2 : ¬ (s.1 k < 0) := by omega
                  have x3 : ¬ (s.1 k ≠ so) := fun e => e h29
                  have x4 : ¬ ¬ (0 ≤ c ∧ c + 9 ≤ s.2.1 k) := fun e => e (by omega)
                  have x5 : ¬ a.1 = 10 := by omega
                  simp only [if_neg x2, if_neg x3, if_neg x4, if_neg x5] at hQ
                  exact main hpr k0 (by omega) (by omega) h45 hQ 0 (by decide) (Int.le_refl _) _ (fun _ => none) _ (fun c a b => zfill_row (by omega)) (DH_clear _ _) (fun _ _ h => by cases h) rfl
                · skip
                  refine r_bipush rfl ?_
                  refine r_iret rfl ?_
                  have x2 : ¬ (s.1 k < 0) := by omega
                  have x3 : ¬ (s.1 k ≠ so) := fun e => e h29
                  have x4 : ¬ ¬ (0 ≤ c ∧ c + 9 ≤ s.2.1 k) := fun e => e (by omega)
                  have x5 : a.1 = 10 := by omega
                  simp only [if_neg x2, if_neg x3, if_neg x4, if_pos x5] at hQ
                  exact hQ zI (frVa_r _) hA0 hk
              · skip
                refine r_bipush rfl ?_
                refine r_iret rfl ?_
                have x2 : ¬ (s.1 k < 0) := by omega
                have x3 : ¬ (s.1 k ≠ so) := fun e => e h29
                have x4 : ¬ (0 ≤ c ∧ c + 9 ≤ s.2.1 k) := by omega
                simp only [if_neg x2, if_neg x3, if_pos x4] at hQ
                exact hQ zI (frVa_r _) hA0 hk
          · skip
            refine r_bipush rfl ?_
            refine r_iret rfl ?_
            have x2 : ¬ (s.1 k < 0) := by omega
            have x3 : s.1 k ≠ so := h29
            simp only [if_neg x2, if_pos x3] at hQ
            exact hQ zI (frVa_r _) hA0 hk
        · skip
          refine r_bipush rfl ?_
          refine r_iret rfl ?_
          have x2 : s.1 k < 0 := by omega
          simp only [if_pos x2] at hQ
          exact hQ zI (frVa_r _) hA0 hk
      · skip
        refine r_if_ne0 rfl ?_
        refine r_bipush rfl ?_
        refine r_iret rfl ?_
        have x1 : hidX k so q := fun e => pe e.2.2
        simp only [if_pos x1] at hQ
        exact hQ zI (frVa_r _) hA0 hk
    · skip
      refine r_if_eq0 rfl ?_
      refine r_bipush rfl ?_
      refine r_iret rfl ?_
      have x1 : hidX k so q := fun e => pe e.2.1
      simp only [if_pos x1] at hQ
      exact hQ zI (frVa_r _) hA0 hk
  · skip
    refine r_if_eq0 rfl ?_
    refine r_bipush rfl ?_
    refine r_iret rfl ?_
    have x1 : hidX k so q := fun e => hpr e.1
    simp only [if_pos x1] at hQ
    exact hQ zI (frVa_r _) hA0 hk
